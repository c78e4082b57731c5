/-- what is kept of a field's number, of a row's -/
def frn (kd i : Nat) : Option (Int × Int) := match kd, i with
  | 0, 5 => some (0, 8)
  | 0, 6 => some (0, 6)
  | 2, 4 => some (0, 6)
  | 2, 5 => some (0, 6)
  | 3, 2 => some (0, 32)
  | 5, 2 => some (0, 400)
  | 6, 1 => some (0, 60)
  | 7, 0 => some (0, 99)
  | 7, 1 => some (0, 9)
  | 7, 3 => some (0, 8)
  | 9, 8 => some (0, 30)
  | 10, 1 => some (0, 400)
  | 10, 3 => some (0, 400)
  | 10, 4 => some (0, 400)
  | 11, 13 => some (0, 11)
  | 12, 6 => some (0, 12)
  | 12, 8 => some (0, 400)
  | 12, 9 => some (-1, 340)
  | 12, 10 => some (0, 400)
  | 12, 11 => some (0, 406)
  | 12, 13 => some (0, 6)
  | 12, 15 => some (0, 1)
  | 12, 16 => some (0, 1)
  | _, _ => none
def mrn (k : Nat) : Option (Int × Int) := if k = 2 then some (0, 400) else if k = 3 then some (0, 8) else if 4 ≤ k ∧ k ≤ 6 then some (0, 6) else if k = 12 then some (0, 50) else if k = 13 then some (0, 60) else if 16 ≤ k ∧ k < 40 ∧ (k - 16) % 3 = 2 then some (0, 50) else
  if 40 ≤ k ∧ k < 76 then (if (k - 40) % 6 = 0 then some (0, 99) else if (k - 40) % 6 = 1 then some (0, 9) else if (k - 40) % 6 = 3 then some (0, 8) else none) else none
def arn (a k : Nat) : Option (Int × Int) := if a = 2 ∨ a = 222 then some (0, 255) else if a = 30 then some (0, 8) else if a = 218 ∨ a = 219 ∨ a = 220 then mrn k else if a = 221 then mrn (k % 340) else none
noncomputable def cr (p : Int) (a k : Nat) : Option (Int × Int) := if k0 a < 13 then (if k0 a = 0 ∧ k = 9 then some (if a = 36 then p else 0, 50) else frn (k0 a) k) else arn a k
/-- a law that was read -/
def Jl (s : gS) (x : Nat) : Prop := (232 ≤ x ∧ x < gn s) ∧ (232 ≤ gR s x 1 ∧ gR s x 1 < gn s) ∧ glen s (gR s x 1) ≤ 400
def J0 (p : Int) (s : gS) : Prop := 232 ≤ gn s ∧ (∀ a k, a < 232 → ¬ (k0 a = 0 ∧ k = 11) → gR s a k = r0 a k) ∧ (∀ a k, a < 232 → ∀ q, cr p a k = some q → q.1 ≤ gI s a k ∧ gI s a k ≤ q.2) ∧ ∀ a, a < 232 → k0 a = 0 → gR s a 11 = 0 ∨ Jl s (gR s a 11)
def T (kd a : Nat) : Prop := a < 232 ∧ k0 a = kd
section JL
variable {p : Int} {s : gS} {a k kd i : Nat} {v : Int}
theorem Jl_w {x : Nat} (h : Jl s x) : Jl (gw s a k v) x := h
theorem Jl_cpy {x b sp dp n : Nat} (h : Jl s x) : Jl (gcpy s a sp b dp n) x := h
theorem Jl_nw {x : Nat} (h : Jl s x) : Jl (gnw s kd) x := by
  obtain ⟨⟨h1, h2⟩, ⟨h3, h4⟩, h5⟩ := h
  have hr : ∀ y, y < gn s → ∀ j, gR (gnw s kd) y j = gR s y j := fun y hy j => by
    show (if y = s.1 then 0 else s.2.2.2 y j) = s.2.2.2 y j
    rw [if_neg (fun e => by rw [e] at hy; exact Nat.lt_irrefl _ hy)]
  have hk : ∀ y, y < gn s → gK (gnw s kd) y = gK s y := fun y hy => by
    show (if y = s.1 then kd else s.2.1 y) = s.2.1 y
    rw [if_neg (fun e => by rw [e] at hy; exact Nat.lt_irrefl _ hy)]
  have hn : gn (gnw s kd) = gn s + 1 := rfl
  unfold Jl
  rw [hr x h2, hn]
  refine ⟨⟨h1, by omega⟩, ⟨h3, by omega⟩, ?_⟩
  unfold glen at h5 ⊢
  rw [hk _ h4]
  exact h5
theorem J0_w (h : J0 p s) (hv : a < 232 → ∀ q, cr p a k = some q → q.1 ≤ v ∧ v ≤ q.2) : J0 p (gw s a k v) := by
  refine ⟨h.1, h.2.1, fun b j hb q hq => ?_, fun b hb h0 => (h.2.2.2 b hb h0).imp id Jl_w⟩
  show q.1 ≤ (if b = a ∧ j = k then v else gI s b j) ∧ (if b = a ∧ j = k then v else gI s b j) ≤ q.2
  by_cases hc : b = a ∧ j = k
  · rw [if_pos hc]
    obtain ⟨rfl, rfl⟩ := hc
    exact hv hb q hq
  · rw [if_neg hc]
    exact h.2.2.1 b j hb q hq
theorem J0_nw (h : J0 p s) : J0 p (gnw s kd) := by
  have hr : ∀ y, y < 232 → ∀ j, gR (gnw s kd) y j = gR s y j := fun y hy j => by
    show (if y = s.1 then 0 else s.2.2.2 y j) = s.2.2.2 y j
    rw [if_neg (fun e => by have h9 := h.1; unfold gn at h9; omega)]
  have hi : ∀ y, y < 232 → ∀ j, gI (gnw s kd) y j = gI s y j := fun y hy j => by
    show (if y = s.1 then 0 else s.2.2.1 y j) = s.2.2.1 y j
    rw [if_neg (fun e => by have h9 := h.1; unfold gn at h9; omega)]
  refine ⟨Nat.le_succ_of_le h.1, fun b j hb h0 => by rw [hr b hb]; exact h.2.1 b j hb h0, fun b j hb q hq => by rw [hi b hb]; exact h.2.2.1 b j hb q hq, fun b hb h0 => ?_⟩
  rw [hr b hb]
  exact (h.2.2.2 b hb h0).imp id Jl_nw
theorem J0_cpy {b sp dp n : Nat} (h : J0 p s) (hv : b < 232 → ∀ k, dp ≤ k → k < dp + n → ∀ q, cr p b k = some q → q.1 ≤ gI s a (sp + (k - dp)) ∧ gI s a (sp + (k - dp)) ≤ q.2) : J0 p (gcpy s a sp b dp n) := by
  refine ⟨h.1, h.2.1, fun c j hc q hq => ?_, fun b hb h0 => (h.2.2.2 b hb h0).imp id Jl_cpy⟩
  show q.1 ≤ (if c = b ∧ dp ≤ j ∧ j < dp + n then gI s a (sp + (j - dp)) else gI s c j) ∧ (if c = b ∧ dp ≤ j ∧ j < dp + n then gI s a (sp + (j - dp)) else gI s c j) ≤ q.2
  by_cases he : c = b ∧ dp ≤ j ∧ j < dp + n
  · rw [if_pos he]
    obtain ⟨rfl, h1, h2⟩ := he
    exact hv hc j h1 h2 q hq
  · rw [if_neg he]
    exact h.2.2.1 c j hc q hq
/-- what is read of a field -/
theorem J0_f (h : J0 p s) (hT : T kd a) (hk : Nat.blt kd 13 = true) (h9 : kd = 0 → i ≠ 9) {x y : Int} (hf : frn kd i = some (x, y)) : x ≤ gI s a i ∧ gI s a i ≤ y := by
  obtain ⟨h1, rfl⟩ := hT
  refine h.2.2.1 a i h1 (x, y) ?_
  unfold cr
  rw [if_pos (es_blt.mp hk), if_neg (fun e => h9 e.1 e.2)]
  exact hf
theorem J0_9 (h : J0 p s) (hp : -1 ≤ p) (hT : T 0 a) : -1 ≤ gI s a 9 ∧ gI s a 9 ≤ 50 := by
  obtain ⟨h1, h2⟩ := hT
  have h3 := h.2.2.1 a 9 h1 (if a = 36 then p else 0, 50) (by
    unfold cr
    rw [h2]
    rfl)
  dsimp only at h3
  refine ⟨?_, h3.2⟩
  by_cases e : a = 36
  · rw [if_pos e] at h3; omega
  · rw [if_neg e] at h3; omega
/-- a field is written -/
theorem J0_wf (h : J0 p s) (hT : T kd a) (hk : Nat.blt kd 13 = true) (h9 : kd = 0 → i ≠ 9) (hv : ∀ q, frn kd i = some q → q.1 ≤ v ∧ v ≤ q.2) : J0 p (gw s a i v) := by
  refine J0_w h (fun ha q hq => ?_)
  obtain ⟨h1, rfl⟩ := hT
  unfold cr at hq
  rw [if_pos (es_blt.mp hk), if_neg (fun e => h9 e.1 e.2)] at hq
  exact hv q hq
/-- a row whose numbers are free -/
def akb (kd : Nat) : Bool := Nat.blt 12 kd && (!Nat.beq kd 3300 && (!Nat.beq kd 340 && (!Nat.beq kd 6020 && (!Nat.beq kd 2820 && !Nat.beq kd 32740))))
theorem k0_sp : k0 2 = 3300 ∧ k0 222 = 3300 ∧ k0 30 = 340 ∧ k0 218 = 6020 ∧ k0 219 = 6020 ∧ k0 220 = 2820 ∧ k0 221 = 32740 := by decide +kernel
theorem cr_free (hT : T kd a) (hk : akb kd = true) : cr p a k = none := by
  obtain ⟨h1, rfl⟩ := hT
  unfold akb at hk
  simp only [Bool.and_eq_true, Bool.not_eq_true', es_blt, es_beqf] at hk
  obtain ⟨g0, g1, g2, g3, g4, g5⟩ := hk
  obtain ⟨e1, e2, e3, e4, e5, e6, e7⟩ := k0_sp
  unfold cr
  rw [if_neg (by omega)]
  unfold arn
  rw [if_neg (fun h => by rcases h with rfl | rfl <;> omega), if_neg (fun h => by subst h; omega), if_neg (fun h => by rcases h with rfl | rfl | rfl <;> omega), if_neg (fun h => by subst h; omega)]
theorem J0_wa (h : J0 p s) (hT : T kd a) (hk : akb kd = true) : J0 p (gw s a k v) :=
  J0_w h (fun _ q hq => by rw [cr_free hT hk] at hq; cases hq)
theorem J0_ca {b sp dp n : Nat} (h : J0 p s) (hT : T kd b) (hk : akb kd = true) : J0 p (gcpy s a sp b dp n) :=
  J0_cpy h (fun _ j _ _ q hq => by rw [cr_free hT hk] at hq; cases hq)
/-- a row whose numbers are bound -/
theorem J0_ra (h : J0 p s) {a : Nat} (ha : a < 232) (hk : 13 ≤ k0 a) {x y : Int} (hf : arn a k = some (x, y)) : x ≤ gI s a k ∧ gI s a k ≤ y :=
  h.2.2.1 a k ha (x, y) (by unfold cr; rw [if_neg (by omega)]; exact hf)
theorem J0_wb (h : J0 p s) {a : Nat} (hk : 13 ≤ k0 a) (hv : ∀ q, arn a k = some q → q.1 ≤ v ∧ v ≤ q.2) : J0 p (gw s a k v) :=
  J0_w h (fun _ q hq => by unfold cr at hq; rw [if_neg (by omega)] at hq; exact hv q hq)
/-- what a field refers to -/
theorem T0_f (h : J0 p s) (hT : T kd a) (hi : i < 25) (hk : Nat.blt kd 13 = true) {c : Nat} (hc : gfk kd i = c + 16) : T c (gR s a i) := by
  obtain ⟨h1, rfl⟩ := hT
  have h2 := r0_ok a h1 i hi (es_blt.mp hk) (by omega)
  have h3 : ¬ (k0 a = 0 ∧ i = 11) := fun e => by
    rw [e.1, e.2] at hc
    have h9 : gfk 0 11 = 11 := rfl
    omega
  rw [h.2.1 a i h1 h3]
  exact ⟨h2.1, by omega⟩
theorem r0_men : ∀ a, a < 232 → k0 a = 152 → ∀ i, i < 6 → r0 a i < 232 ∧ k0 (r0 a i) = 7 := by decide +kernel
theorem r0_past : ∀ i, i < 12 → r0 72 i < 232 ∧ k0 (r0 72 i) = 2 := by decide +kernel
theorem T0_man (h : J0 p s) (hT : T 152 a) (hi : i < 6) : T 7 (gR s a i) := by
  obtain ⟨h1, h2⟩ := hT
  rw [h.2.1 a i h1 (fun e => by rw [h2] at e; exact absurd e.1 (by decide))]
  exact r0_men a h1 h2 i hi
theorem T0_past (h : J0 p s) (hi : i < 12) : T 2 (gR s 72 i) := by
  rw [h.2.1 72 i (by decide) (fun e => by
    have h9 : k0 72 = 199 := by decide +kernel
    rw [h9] at e; exact absurd e.1 (by decide))]
  exact r0_past i hi
/-- a reference of the start -/
theorem J0_r (h : J0 p s) {a k r : Nat} (ha : Nat.blt a 232 = true) (h0 : (Nat.beq (k0 a) 0 && Nat.beq k 11) = false) (hr : r0 a k = r) : gR s a k = r := by
  rw [h.2.1 a k (es_blt.mp ha) (fun e => by rw [es_beq.mpr e.1, es_beq.mpr e.2] at h0; cases h0)]
  exact hr
end JL
/-- the tape's thing is the end, or it begins below 400 -/
def TK (s : gS) : Prop := gI s 1 2 = 0 ∨ gI s 1 3 ≤ 399
/-- the draft's least gain; both tapes' lengths; whether images are kept -/
abbrev gP := Int × Int × Int × Int × Int
def TG (p : gP) (s : gS) : Prop := gI s 1 1 = p.2.1 ∧ gI s 217 8 = p.2.2.1 ∧ gI s 0 15 = p.2.2.2.1 ∧ gI s 217 3 = p.2.2.2.2
def J (p : gP) (s : gS) : Prop := J0 p.1 s ∧ TK s ∧ TG p s
theorem k0_1 : k0 1 = 10 := by decide +kernel
theorem k0_0 : k0 0 = 11 := by decide +kernel
theorem k0_217 : k0 217 = 12 := by decide +kernel
/-- fields that no ghost holds -/
def jw (kd i : Nat) : Bool := !((Nat.beq kd 10 && (Nat.beq i 1 || (Nat.beq i 2 || Nat.beq i 3))) || ((Nat.beq kd 12 && (Nat.beq i 3 || Nat.beq i 8)) || (Nat.beq kd 11 && Nat.beq i 15)))
theorem jw_s {kd i : Nat} (h : jw kd i = true) : (kd = 10 → i ≠ 1 ∧ i ≠ 2 ∧ i ≠ 3) ∧ (kd = 12 → i ≠ 3 ∧ i ≠ 8) ∧ (kd = 11 → i ≠ 15) := by
  unfold jw at h
  simp only [Bool.not_eq_true', Bool.or_eq_false_iff, Bool.and_eq_false_iff, es_beqf] at h
  omega
section JT
variable {p : gP} {s s' : gS} {a k kd i : Nat} {v : Int}
theorem TKG (h : TK s ∧ TG p s) (hx : ∀ b j, (b = 1 ∧ (j = 1 ∨ j = 2 ∨ j = 3)) ∨ (b = 217 ∧ (j = 3 ∨ j = 8)) ∨ (b = 0 ∧ j = 15) → gI s' b j = gI s b j) : TK s' ∧ TG p s' := by
  unfold TK TG
  rw [hx 1 2 (by decide), hx 1 3 (by decide), hx 1 1 (by decide), hx 217 8 (by decide), hx 0 15 (by decide), hx 217 3 (by decide)]
  exact h
theorem TKG_w (h : TK s ∧ TG p s) (hx : (a = 1 → k ≠ 1 ∧ k ≠ 2 ∧ k ≠ 3) ∧ (a = 217 → k ≠ 3 ∧ k ≠ 8) ∧ (a = 0 → k ≠ 15)) : TK (gw s a k v) ∧ TG p (gw s a k v) :=
  TKG h (fun b j hb => by
    show (if b = a ∧ j = k then v else gI s b j) = _
    rw [if_neg (fun z => by omega)])
theorem TKG_b (h : TK s ∧ TG p s) (hk : 13 ≤ k0 a) : TK (gw s a k v) ∧ TG p (gw s a k v) :=
  TKG_w h ⟨fun e => by rw [e, k0_1] at hk; omega, fun e => by rw [e, k0_217] at hk; omega, fun e => by rw [e, k0_0] at hk; omega⟩
theorem TKG_c {b sp dp n : Nat} (h : TK s ∧ TG p s) (hk : 13 ≤ k0 b) : TK (gcpy s a sp b dp n) ∧ TG p (gcpy s a sp b dp n) := by
  have e1 : b ≠ 1 := fun e => by rw [e, k0_1] at hk; omega
  have e2 : b ≠ 217 := fun e => by rw [e, k0_217] at hk; omega
  have e3 : b ≠ 0 := fun e => by rw [e, k0_0] at hk; omega
  exact TKG h (fun c j hc => by
    show (if c = b ∧ dp ≤ j ∧ j < dp + n then gI s a (sp + (j - dp)) else gI s c j) = _
    rw [if_neg (fun z => by omega)])
theorem akb_13 (hT : T kd a) (h : akb kd = true) : 13 ≤ k0 a := by
  rw [hT.2]
  unfold akb at h
  simp only [Bool.and_eq_true, es_blt] at h
  omega
theorem J_f (h : J p s) (hT : T kd a) (hk : Nat.blt kd 13 = true) (h9 : kd = 0 → i ≠ 9) {x y : Int} (hf : frn kd i = some (x, y)) : x ≤ gI s a i ∧ gI s a i ≤ y := J0_f h.1 hT hk h9 hf
theorem J_9 (h : J p s) (hp : -1 ≤ p.1) (hT : T 0 a) : -1 ≤ gI s a 9 ∧ gI s a 9 ≤ 50 := J0_9 h.1 hp hT
theorem J_wf (h : J p s) (hT : T kd a) (hk : Nat.blt kd 13 = true) (h9 : kd = 0 → i ≠ 9) (h10 : jw kd i = true) (hv : ∀ q, frn kd i = some q → q.1 ≤ v ∧ v ≤ q.2) : J p (gw s a i v) := by
  obtain ⟨e1, e2, e3⟩ := jw_s h10
  exact ⟨J0_wf h.1 hT hk h9 hv, TKG_w h.2 ⟨fun e => e1 (by rw [← hT.2, e]; exact k0_1), fun e => e2 (by rw [← hT.2, e]; exact k0_217), fun e => e3 (by rw [← hT.2, e]; exact k0_0)⟩⟩
theorem J_wa (h : J p s) (hT : T kd a) (hk : akb kd = true) : J p (gw s a k v) := ⟨J0_wa h.1 hT hk, TKG_b h.2 (akb_13 hT hk)⟩
theorem J_ca {b sp dp n : Nat} (h : J p s) (hT : T kd b) (hk : akb kd = true) : J p (gcpy s a sp b dp n) := ⟨J0_ca h.1 hT hk, TKG_c h.2 (akb_13 hT hk)⟩
theorem J_nw (h : J p s) : J p (gnw s kd) := by
  refine ⟨J0_nw h.1, TKG h.2 (fun b j hb => ?_)⟩
  show (if b = s.1 then 0 else s.2.2.1 b j) = s.2.2.1 b j
  rw [if_neg (fun z => by have h9 := h.1.1; unfold gn at h9; omega)]
theorem J_ra (h : J p s) {a : Nat} (ha : a < 232) (hk : 13 ≤ k0 a) {x y : Int} (hf : arn a k = some (x, y)) : x ≤ gI s a k ∧ gI s a k ≤ y := J0_ra h.1 ha hk hf
theorem J_wb (h : J p s) {a : Nat} (hk : 13 ≤ k0 a) (hv : ∀ q, arn a k = some q → q.1 ≤ v ∧ v ≤ q.2) : J p (gw s a k v) := ⟨J0_wb h.1 hk hv, TKG_b h.2 hk⟩
theorem T_f (h : J p s) (hT : T kd a) (hi : i < 25) (hk : Nat.blt kd 13 = true) {c : Nat} (hc : gfk kd i = c + 16) : T c (gR s a i) := T0_f h.1 hT hi hk hc
theorem T_man (h : J p s) (hT : T 152 a) (hi : i < 6) : T 7 (gR s a i) := T0_man h.1 hT hi
theorem T_past (h : J p s) (hi : i < 12) : T 2 (gR s 72 i) := T0_past h.1 hi
theorem J_r (h : J p s) {a k r : Nat} (ha : Nat.blt a 232 = true) (h0 : (Nat.beq (k0 a) 0 && Nat.beq k 11) = false) (hr : r0 a k = r) : gR s a k = r := J0_r h.1 ha h0 hr
/-- the four cells of the ghosts -/
theorem k0_1a : ∀ a, a < 232 → (k0 a = 12 → a = 217) ∧ (k0 a = 10 → a = 1) ∧ (k0 a = 11 → a = 0) := by decide +kernel
theorem rd_w {b j : Nat} : gI (gw s a k v) b j = if b = a ∧ j = k then v else gI s b j := rfl
theorem J_l (h : J p s) (t : T 10 a) (hv : 0 ≤ v ∧ v ≤ 400) : J (p.1, v, p.2.2) (gw s a 1 v) := by
  have e := (k0_1a a t.1).2.1 t.2
  refine ⟨J0_wf h.1 t rfl (by decide) (fun q hq => by cases hq; exact hv), ?_⟩
  subst e
  obtain ⟨h1, h2, h3, h4, h5⟩ := h.2
  unfold TK at h1
  unfold TK TG
  simp only [rd_w]
  exact ⟨h1, rfl, h3, h4, h5⟩
theorem J_t (h : J p s) (t : T 12 a) (hv : 0 ≤ v ∧ v ≤ 400) : J (p.1, p.2.1, v, p.2.2.2) (gw s a 8 v) := by
  have e := (k0_1a a t.1).1 t.2
  refine ⟨J0_wf h.1 t rfl (by decide) (fun q hq => by cases hq; exact hv), ?_⟩
  subst e
  obtain ⟨h1, h2, h3, h4, h5⟩ := h.2
  unfold TK at h1
  unfold TK TG
  simp only [rd_w]
  exact ⟨h1, h2, rfl, h4, h5⟩
theorem J_i (h : J p s) (t : T 11 a) : J (p.1, p.2.1, p.2.2.1, v, p.2.2.2.2) (gw s a 15 v) := by
  have e := (k0_1a a t.1).2.2 t.2
  refine ⟨J0_wf h.1 t rfl (by decide) (fun q hq => by cases hq), ?_⟩
  subst e
  obtain ⟨h1, h2, h3, h4, h5⟩ := h.2
  unfold TK at h1
  unfold TK TG
  simp only [rd_w]
  exact ⟨h1, h2, h3, rfl, h5⟩
theorem J_j (h : J p s) (t : T 12 a) : J (p.1, p.2.1, p.2.2.1, p.2.2.2.1, v) (gw s a 3 v) := by
  have e := (k0_1a a t.1).1 t.2
  refine ⟨J0_wf h.1 t rfl (by decide) (fun q hq => by cases hq), ?_⟩
  subst e
  obtain ⟨h1, h2, h3, h4, h5⟩ := h.2
  unfold TK at h1
  unfold TK TG
  simp only [rd_w]
  exact ⟨h1, h2, h3, h4, rfl⟩
end JT
