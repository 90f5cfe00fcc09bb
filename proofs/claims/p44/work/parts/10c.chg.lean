/-! ===== the changes of the class, as functions of the table: the answer, the table, the reason kept ===== -/
theorem cN_nI {j : Nat} (h : j < 2 ^ 31) : cN (nI j) = j := nI_clamp h
def layV (v : Nat → Nat → Int32) (k : Nat) (sh : Int32) : Nat → Nat → Int32 := set1 (set1 (set1 (set1 (set1 (set1 v 3 k 0) 4 k 0) 5 k sh) 6 k 0) 7 k 0) 0 0 (v 0 0 + 1)
def layC (v : Nat → Nat → Int32) (k1 k2 k3 sh : Int32) : CR :=
  if inB sh 0 3 then (if v 0 0 < 8 then (if popF (onJ v sh (cN (v 0 0))) < 3 then (v 0 0, layV v (cN (v 0 0)) sh, k1, k2, k3) else (-1, v, 5, sh, 0)) else (-1, v, 2, 8, 0)) else (-1, v, 1, 0, 0)
def addV (v : Nat → Nat → Int32) (j s : Nat) (kind parts lang two : Int32) : Nat → Nat → Int32 := set1 (set1 (set1 (set1 (set1 v (10 + j) s kind) (20 + j) s parts) (30 + j) s lang) (40 + j) s two) 3 j (v 3 j + 1)
def addC (v : Nat → Nat → Int32) (k1 k2 k3 l kind parts lang two : Int32) : CR :=
  if inB l 0 (v 0 0 - 1) then (if inB kind 0 5 ∧ inB parts 1 4 ∧ inB lang 1 31 then (if builtB v (cN l) then (-1, v, 6, v 6 (cN l) - 1, 0) else
    (if v 3 (cN l) < 8 then (v 3 (cN l), addV v (cN l) (cN (v 3 (cN l))) kind parts lang (if two = 0 then 0 else 1), k1, k2, k3) else (-1, v, 2, 8, 0))) else (-1, v, 1, 0, 0)) else (-1, v, 3, v 0 0, 0)
def foldC (v : Nat → Nat → Int32) (k1 k2 k3 l by_ : Int32) : CR :=
  if inB l 0 (v 0 0 - 1) then (if builtB v (cN l) then (-1, v, 6, v 6 (cN l) - 1, 0) else (if inB (v 4 (cN l) + by_) 0 3 then (openJ (v 3 (cN l)) (cN (v 4 (cN l) + by_)), set1 v 4 (cN l) (v 4 (cN l) + by_), k1, k2, k3) else (-1, v, 11, v 4 (cN l), 0))) else (-1, v, 3, v 0 0, 0)
def comeV (v : Nat → Nat → Int32) (k : Nat) (boast lang : Int32) : Nat → Nat → Int32 := set1 (set1 (set1 v 8 k boast) 9 k lang) 0 1 (v 0 1 + 1)
def comeC (v : Nat → Nat → Int32) (k1 k2 k3 boast lang : Int32) : CR :=
  if inB boast 0 5 ∧ inB lang 0 31 then (if v 0 1 < 5 then (v 0 1, comeV v (cN (v 0 1)) boast lang, k1, k2, k3) else (-1, v, 2, 5, 0)) else (-1, v, 1, 0, 0)
def learnC (v : Nat → Nat → Int32) (k1 k2 k3 c lang : Int32) : CR :=
  if inB c 0 (v 0 1 - 1) then (if inB lang 0 4 then (if hasB (v 9 (cN c)) lang then (-1, v, 12, lang, 0) else (popF (v 9 (cN c) ||| 1 <<< (lang &&& 31)), set1 v 9 (cN c) (v 9 (cN c) ||| 1 <<< (lang &&& 31)), k1, k2, k3)) else (-1, v, 1, 0, 0)) else (-1, v, 4, v 0 1, 0)
def needW (v : Nat → Nat → Int32) (j : Nat) (set : Int32) : Nat → Int32 := fun i => needJ v j set (nI i) (stN v j)
def buildV (v : Nat → Nat → Int32) (j : Nat) (c set : Int32) : Nat → Nat → Int32 := set1 (set1 (setR (set1 (set1 v 6 j (c + 1)) 7 j set) 1 (putJ (v 1) (needW v j set) 6)) 0 2 (v 0 2 + 1)) 0 3 (v 0 3 + popF set)
def skipL (v : Nat → Nat → Int32) (c j : Nat) : Int32 := skipF v j (stN v j) (v 9 c) (v 8 c) (cN (v 4 j))
def buildC (v : Nat → Nat → Int32) (k1 k2 k3 c l : Int32) : CR :=
  if inB c 0 (v 0 1 - 1) then (if inB l 0 (v 0 0 - 1) then (if builtB v (cN l) then (-1, v, 6, v 6 (cN l) - 1, 0) else (v 3 (cN l) - popF (skipL v (cN c) (cN l)), buildV v (cN l) c (skipL v (cN c) (cN l)), k1, k2, k3)) else (-1, v, 3, v 0 0, 0)) else (-1, v, 4, v 0 1, 0)
def finV (v : Nat → Nat → Int32) (j : Nat) (s : Int32) : Nat → Nat → Int32 := set1 (set1 (setR v 1 (takeJ (v 1) (needW v j (1 <<< (s &&& 31))) 6)) 7 j (v 7 j &&& (1 <<< (s &&& 31) ^^^ (-1)))) 0 4 (v 0 4 + 1)
def finC (v : Nat → Nat → Int32) (k1 k2 k3 l s : Int32) : CR :=
  if inB l 0 (v 0 0 - 1) then (if builtB v (cN l) then (if inB s 0 (v 3 (cN l) - 1) then (if hasB (v 7 (cN l)) s then
    (if lackJ (v 1) (needW v (cN l) (1 <<< (s &&& 31))) 0 6 = -1 then (popF (v 7 (cN l) &&& (1 <<< (s &&& 31) ^^^ (-1))), finV v (cN l) s, k1, k2, k3) else (-1, v, 10, lackJ (v 1) (needW v (cN l) (1 <<< (s &&& 31))) 0 6, 0))
    else (-1, v, 9, s, 0)) else (-1, v, 8, v 3 (cN l), 0)) else (-1, v, 7, 0, 0)) else (-1, v, 3, v 0 0, 0)
def apaV (v : Nat → Nat → Int32) (j : Nat) : Nat → Nat → Int32 := set1 (set1 (set1 (setR v 1 (takeJ (v 1) (needW v j (v 7 j)) 6)) 6 j 0) 7 j 0) 0 5 (v 0 5 + 1)
def apaC (v : Nat → Nat → Int32) (k1 k2 k3 l : Int32) : CR :=
  if inB l 0 (v 0 0 - 1) then (if builtB v (cN l) then (if lackJ (v 1) (needW v (cN l) (v 7 (cN l))) 0 6 = -1 then (partsJ v (cN l) (v 7 (cN l)) (stN v (cN l)), apaV v (cN l), k1, k2, k3) else (-1, v, 10, lackJ (v 1) (needW v (cN l) (v 7 (cN l))) 0 6, 0)) else (-1, v, 7, 0, 0)) else (-1, v, 3, v 0 0, 0)
def moveC (v : Nat → Nat → Int32) (k1 k2 k3 l sh : Int32) : CR :=
  if inB l 0 (v 0 0 - 1) then (if inB sh 0 3 then (if v 5 (cN l) = sh then (-1, v, 12, sh, 0) else (if popF (onJ v sh (cN (v 0 0))) < 3 then (v 5 (cN l), set1 v 5 (cN l) sh, k1, k2, k3) else (-1, v, 5, sh, 0))) else (-1, v, 1, 0, 0)) else (-1, v, 3, v 0 0, 0)
def loseV (v : Nat → Nat → Int32) (k : Nat) (p : Int32) : Nat → Nat → Int32 := set1 (set1 v 1 k (v 1 k - p)) 2 k (v 2 k + p)
def loseC (v : Nat → Nat → Int32) (k1 k2 k3 kind p : Int32) : CR :=
  if inB kind 0 5 ∧ inB p 1 9 then (if p ≤ v 1 (cN kind) then (v 1 (cN kind) - p, loseV v (cN kind) p, k1, k2, k3) else (-1, v, 10, kind, 0)) else (-1, v, 1, 0, 0)
def findV (v : Nat → Nat → Int32) (k : Nat) (p : Int32) : Nat → Nat → Int32 := set1 (set1 v 2 k (v 2 k - p)) 1 k (v 1 k + p)
def findC (v : Nat → Nat → Int32) (k1 k2 k3 kind p : Int32) : CR :=
  if inB kind 0 5 ∧ inB p 1 9 then (if p ≤ v 2 (cN kind) then (v 2 (cN kind) - p, findV v (cN kind) p, k1, k2, k3) else (-1, v, 13, v 2 (cN kind), 0)) else (-1, v, 1, 0, 0)
/-! ===== what a leaflet's numbers depend on ===== -/
theorem psJ_congr {v w : Nat → Nat → Int32} {k : Nat} (h20 : w (20 + k) = v (20 + k)) (h40 : w (40 + k) = v (40 + k)) (j : Nat) : psJ w k j = psJ v k j := by simp only [psJ, h20, h40]
theorem partsJ_congr {v w : Nat → Nat → Int32} {k : Nat} {set : Int32} (h20 : w (20 + k) = v (20 + k)) (h40 : w (40 + k) = v (40 + k)) : ∀ n : Nat, partsJ w k set n = partsJ v k set n
  | 0 => rfl
  | n + 1 => by simp only [partsJ, partsJ_congr h20 h40 n, psJ_congr h20 h40]
theorem needJ_congr {v w : Nat → Nat → Int32} {k : Nat} {set kind : Int32} (h10 : w (10 + k) = v (10 + k)) (h20 : w (20 + k) = v (20 + k)) (h40 : w (40 + k) = v (40 + k)) : ∀ n : Nat, needJ w k set kind n = needJ v k set kind n
  | 0 => rfl
  | n + 1 => by simp only [needJ, needJ_congr h10 h20 h40 n, usesB, h10, h20, h40]
theorem unreadJ_congr {v w : Nat → Nat → Int32} {k : Nat} {kn : Int32} (h30 : w (30 + k) = v (30 + k)) : ∀ n : Nat, unreadJ w k kn n = unreadJ v k kn n
  | 0 => rfl
  | n + 1 => by simp only [unreadJ, unreadJ_congr h30 n, h30]
theorem belowJ_congr {v w : Nat → Nat → Int32} {k : Nat} {b : Int32} (h20 : w (20 + k) = v (20 + k)) (h40 : w (40 + k) = v (40 + k)) : ∀ n : Nat, belowJ w k b n = belowJ v k b n
  | 0 => rfl
  | n + 1 => by simp only [belowJ, belowJ_congr h20 h40 n, psJ_congr h20 h40]
theorem skipF_congr {v w : Nat → Nat → Int32} {k n : Nat} {kn b : Int32} {f : Nat} (h3 : w 3 k = v 3 k) (h20 : w (20 + k) = v (20 + k)) (h30 : w (30 + k) = v (30 + k)) (h40 : w (40 + k) = v (40 + k)) : skipF w k n kn b f = skipF v k n kn b f := by
  simp only [skipF, underF, h3, unreadJ_congr h30, belowJ_congr h20 h40]
theorem set1_big {v : Nat → Nat → Int32} {r j b k : Nat} {x : Int32} (h : r < b) : set1 v r j x (b + k) = v (b + k) := set1_row (by omega)
theorem skipF_6 {v : Nat → Nat → Int32} {k n j : Nat} {x kn b : Int32} {f : Nat} : skipF (set1 v 6 j x) k n kn b f = skipF v k n kn b f := skipF_congr (by rw [set1_row (by decide)]) (set1_big (by decide)) (set1_big (by decide)) (set1_big (by decide))
theorem needJ_6 {v : Nat → Nat → Int32} {k n j : Nat} {x set kind : Int32} : needJ (set1 v 6 j x) k set kind n = needJ v k set kind n := needJ_congr (set1_big (by decide)) (set1_big (by decide)) (set1_big (by decide)) n
theorem needJ_7 {v : Nat → Nat → Int32} {k n j : Nat} {x set kind : Int32} : needJ (set1 v 7 j x) k set kind n = needJ v k set kind n := needJ_congr (set1_big (by decide)) (set1_big (by decide)) (set1_big (by decide)) n
theorem side_2 {f : Nat → Int32} {q : Nat} : upd (fun i9 => f i9 + 1) q 2 = fun i9 => upd f q 1 i9 + 1 := by
  funext i; by_cases h : i = q
  · subst h; rw [upd_at, upd_at]; rfl
  · rw [upd_off h, upd_off h]
theorem side_1 {f : Nat → Int32} {q : Nat} : upd (fun i9 => f i9 + 1) q 1 = fun i9 => upd f q 0 i9 + 1 := by
  funext i; by_cases h : i = q
  · subst h; rw [upd_at, upd_at]; rfl
  · rw [upd_off h, upd_off h]
theorem ne_big {b r j : Nat} (h : r < b) : (b + j = r) = False := eq_false (by omega)
/-- the numbers of a leaflet are the same in two tables -/
def LeafEq (w v : Nat → Nat → Int32) (j : Nat) : Prop := w 3 j = v 3 j ∧ w 4 j = v 4 j ∧ w 5 j = v 5 j ∧ w 6 j = v 6 j ∧ w 7 j = v 7 j ∧ w (10 + j) = v (10 + j) ∧ w (20 + j) = v (20 + j) ∧ w (30 + j) = v (30 + j) ∧ w (40 + j) = v (40 + j)
theorem LeafEq.rf {v : Nat → Nat → Int32} {j : Nat} : LeafEq v v j := ⟨rfl, rfl, rfl, rfl, rfl, rfl, rfl, rfl, rfl⟩
theorem LeafEq.s0 {w v : Nat → Nat → Int32} {j r i : Nat} {x : Int32} (h : LeafEq w v j) (hr : r < 3 ∨ r = 8 ∨ r = 9) : LeafEq (set1 w r i x) v j := by
  obtain ⟨a, b, c, d, e, f, g, k, l⟩ := h
  exact ⟨by rw [set1_row (by omega)]; exact a, by rw [set1_row (by omega)]; exact b, by rw [set1_row (by omega)]; exact c, by rw [set1_row (by omega)]; exact d, by rw [set1_row (by omega)]; exact e, by rw [set1_row (by omega)]; exact f, by rw [set1_row (by omega)]; exact g, by rw [set1_row (by omega)]; exact k, by rw [set1_row (by omega)]; exact l⟩
theorem LeafEq.sR {w v : Nat → Nat → Int32} {j r : Nat} {f : Nat → Int32} (h : LeafEq w v j) (hr : r < 3) : LeafEq (setR w r f) v j := by
  obtain ⟨a, b, c, d, e, f1, g, k, l⟩ := h
  have q : ∀ r' : Nat, ¬ r' = r → setR w r f r' = w r' := fun r' h9 => if_neg h9
  exact ⟨by rw [q _ (by omega)]; exact a, by rw [q _ (by omega)]; exact b, by rw [q _ (by omega)]; exact c, by rw [q _ (by omega)]; exact d, by rw [q _ (by omega)]; exact e, by rw [q _ (by omega)]; exact f1, by rw [q _ (by omega)]; exact g, by rw [q _ (by omega)]; exact k, by rw [q _ (by omega)]; exact l⟩
theorem set1_oth {v : Nat → Nat → Int32} {r j r' j' : Nat} {x : Int32} (h : ¬ j' = j) : set1 v r j x r' j' = v r' j' := by
  by_cases hr : r' = r
  · subst hr; exact set1_off h
  · rw [set1_row hr]
theorem LeafEq.s1 {w v : Nat → Nat → Int32} {j r k : Nat} {x : Int32} (h : LeafEq w v j) (hr : r < 10) (hj : ¬ j = k) : LeafEq (set1 w r k x) v j := by
  obtain ⟨a, b, c, d, e, f, g, i, l⟩ := h
  exact ⟨by rw [set1_oth hj]; exact a, by rw [set1_oth hj]; exact b, by rw [set1_oth hj]; exact c, by rw [set1_oth hj]; exact d, by rw [set1_oth hj]; exact e, by rw [set1_row (by omega)]; exact f, by rw [set1_row (by omega)]; exact g, by rw [set1_row (by omega)]; exact i, by rw [set1_row (by omega)]; exact l⟩
theorem LeafEq.s2 {w v : Nat → Nat → Int32} {j b k s : Nat} {x : Int32} (h : LeafEq w v j) (hb : b = 10 ∨ b = 20 ∨ b = 30 ∨ b = 40) (h1 : j < 8) (h2 : k < 8) (hj : ¬ j = k) : LeafEq (set1 w (b + k) s x) v j := by
  obtain ⟨a, b9, c, d, e, f, g, i, l⟩ := h
  exact ⟨by rw [set1_row (by omega)]; exact a, by rw [set1_row (by omega)]; exact b9, by rw [set1_row (by omega)]; exact c, by rw [set1_row (by omega)]; exact d, by rw [set1_row (by omega)]; exact e, by rw [set1_row (by omega)]; exact f, by rw [set1_row (by omega)]; exact g, by rw [set1_row (by omega)]; exact i, by rw [set1_row (by omega)]; exact l⟩
theorem layV_le {v : Nat → Nat → Int32} {k j : Nat} {sh : Int32} (hj : ¬ j = k) : LeafEq (layV v k sh) v j := ((((((LeafEq.rf.s1 (by decide) hj).s1 (by decide) hj).s1 (by decide) hj).s1 (by decide) hj).s1 (by decide) hj).s0 (by decide))
theorem addV_le {v : Nat → Nat → Int32} {k s j : Nat} {a b c d : Int32} (h1 : j < 8) (h2 : k < 8) (hj : ¬ j = k) : LeafEq (addV v k s a b c d) v j := ((((LeafEq.rf.s2 (by decide) h1 h2 hj).s2 (by decide) h1 h2 hj).s2 (by decide) h1 h2 hj).s2 (by decide) h1 h2 hj).s1 (by decide) hj
theorem comeV_le {v : Nat → Nat → Int32} {k j : Nat} {a b : Int32} : LeafEq (comeV v k a b) v j := ((LeafEq.rf.s0 (by decide)).s0 (by decide)).s0 (by decide)
theorem buildV_le {v : Nat → Nat → Int32} {k j : Nat} {a b : Int32} (hj : ¬ j = k) : LeafEq (buildV v k a b) v j := ((((LeafEq.rf.s1 (by decide) hj).s1 (by decide) hj).sR (by decide)).s0 (by decide)).s0 (by decide)
theorem finV_le {v : Nat → Nat → Int32} {k j : Nat} {s : Int32} (hj : ¬ j = k) : LeafEq (finV v k s) v j := ((LeafEq.rf.sR (by decide)).s1 (by decide) hj).s0 (by decide)
theorem apaV_le {v : Nat → Nat → Int32} {k j : Nat} (hj : ¬ j = k) : LeafEq (apaV v k) v j := (((LeafEq.rf.sR (by decide)).s1 (by decide) hj).s1 (by decide) hj).s0 (by decide)
theorem loseV_le {v : Nat → Nat → Int32} {k j : Nat} {p : Int32} : LeafEq (loseV v k p) v j := (LeafEq.rf.s0 (by decide)).s0 (by decide)
theorem findV_le {v : Nat → Nat → Int32} {k j : Nat} {p : Int32} : LeafEq (findV v k p) v j := (LeafEq.rf.s0 (by decide)).s0 (by decide)
theorem ne_big' {b r j : Nat} (h : r < b) : (r = b + j) = False := eq_false (by omega)
theorem needW_eq {v : Nat → Nat → Int32} {j : Nat} {set : Int32} : needW v j set = fun i9 => needJ v j set (nI i9) (stN v j) := rfl
