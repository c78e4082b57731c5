/-- cells that the reading of a law and the memo use -/
def scb (a k : Nat) : Bool := ((Nat.beq a 223 && Nat.blt k 7) || (Nat.beq a 217 && (Nat.beq k 9 || Nat.beq k 10 || Nat.beq k 11 || Nat.beq k 12 || Nat.beq k 13 || Nat.beq k 15 || Nat.beq k 16 || Nat.beq k 17)))
def Eg (g s : gS) : Prop := Sm g s ∧ (gR g 217 1 = 218 ∧ gR g 217 7 = 222 ∧ gR g 217 14 = 223 ∧ gR g 217 22 = 228) ∧ ∀ a k, scb a k = false → gI s a k = gI g a k
section Fq
variable {g s s' : gS} {Q : Type} {P : Q → Prop}
theorem Eg_w {a k : Nat} {v : Int} (h : Eg g s) (hc : scb a k = true) : Eg g (gw s a k v) := by
  refine ⟨h.1, h.2.1, fun b j hb => ?_⟩
  show (if b = a ∧ j = k then v else gI s b j) = _
  rw [if_neg (fun e => by rw [e.1, e.2, hc] at hb; cases hb)]
  exact h.2.2 b j hb
theorem gQ_loop {σ : Type} {step : σ → Option (σ ⊕ Q)} (I : σ → Prop) (h : ∀ y, I y → gQ (step y) (Sum.elim I P)) {y : σ} (h0 : I y) : gQ (gloop step y) P := by
  intro r e
  obtain ⟨n, hn⟩ := gloop_out e
  clear e
  induction n generalizing y with
  | zero => cases hn
  | succ n ih =>
    have hn : (step y).bind (Sum.elim (giter step n) some) = some r := hn
    have hs := h y h0
    cases e1 : step y with
    | none => rw [e1] at hn; cases hn
    | some q =>
      have hq := hs q e1
      rw [e1] at hn
      cases q with
      | inl z => exact ih hq hn
      | inr z => cases hn; exact hq
theorem o_266 {a : Nat} (h : Eg g s) : gQ (f_266 a s) (fun r => Eg g r.2.2.2) := gQ_ret h
theorem o_267 {a : Nat} {j : Int} (h : Eg g s) : gQ (f_267 a j s) (fun r => Eg g r.2.2.2) := gQ_chk (gQ_ret h)
end Fq

theorem o_150  {a0 : Int} {a1 : Int} {a2 : Int} {g s : gS}  (h : Eg g s) : gQ (f_150 a0 a1 a2 s) (fun r => Eg g r.2.2.2) := by
  unfold f_150
  refine gQ_ite ?_ ?_
  · unfold fb_150_14
    exact gQ_ret h
  · refine gQ_ite ?_ ?_
    · unfold fb_150_14
      exact gQ_ret h
    · exact gQ_ret h

theorem o_151  {a0 : Int} {a1 : Int} {g s : gS}  (h : Eg g s) : gQ (f_151 a0 a1 s) (fun r => Eg g r.2.2.2) := by
  unfold f_151
  refine gQ_ite ?_ ?_
  · exact gQ_ret h
  · exact gQ_ret h

theorem o_152  {a0 : Int} {a1 : Int} {g s : gS}  (h : Eg g s) : gQ (f_152 a0 a1 s) (fun r => Eg g r.2.2.2) := by
  unfold f_152
  refine gQ_ite ?_ ?_
  · exact gQ_ret h
  · exact gQ_ret h

theorem o_153  {a0 : Int} {a1 : Int} {g s : gS}  (h : Eg g s) : gQ (f_153 a0 a1 s) (fun r => Eg g r.2.2.2) := by
  unfold f_153
  refine gQ_ite ?_ ?_
  · exact gQ_ret h
  · exact gQ_ret h

theorem o_168  {a1 : Int} {g s : gS}  (h : Eg g s) : gQ (f_168 217 a1 s) (fun r => Eg g r.2.2.2) := by
  unfold f_168
  refine gQ_ite ?_ ?_
  · refine gQ_chk ?_
    exact gQ_ret h
  · refine gQ_chk ?_
    exact gQ_ret h

theorem o_169   {g s : gS}  (h : Eg g s) : gQ (f_169 217 s) (fun r => Eg g r.2.2.2) := by
  unfold f_169
  refine gQ_loop (fun y => y.1 = 217 ∧ Eg g y.2) (fun y hy => ?_) ⟨rfl, h⟩
  obtain ⟨x0, u1⟩ := y
  obtain ⟨e3, h2⟩ := hy
  dsimp only at e3 h2
  subst e3
  show gQ (sb_169_0 217 u1) _
  unfold sb_169_0
  dsimp only
  refine gQ_ite ?_ ?_
  · refine gQ_v1 (A := Eg g) (o_168 h2) (fun v2 s1 h4 => ?_)
    refine gQ_ite ?_ ?_
    · exact gQ_ret ⟨rfl, (Eg_w h4 rfl)⟩
    · refine gQ_map ?_
      exact gQ_ret h4
  · refine gQ_map ?_
    exact gQ_ret h2

theorem o_170  {a1 : Int} {g s : gS}  (h : Eg g s) : gQ (f_170 217 a1 s) (fun r => Eg g r.2.2.2) := by
  unfold f_170
  refine gQ_v0 (A := Eg g) (o_169 h) (fun s1 h5 => ?_)
  refine gQ_ite ?_ ?_
  · refine gQ_v1 (A := Eg g) (o_168 h5) (fun v4 s3 h6 => ?_)
    refine gQ_ite ?_ ?_
    · exact gQ_ret h6
    · unfold fb_170_31
      exact gQ_ret h6
  · unfold fb_170_31
    exact gQ_ret h5

theorem o_171  {a1 : Nat} {g s : gS}  (h : Eg g s) : gQ (f_171 217 a1 s) (fun r => Eg g r.2.2.2) := by
  unfold f_171
  refine gQ_v0 (A := Eg g) (o_169 h) (fun s1 h7 => ?_)
  refine gQ_loop (fun y => y.1 = 217 ∧ Eg g y.2.2.2) (fun y hy => ?_) ⟨rfl, h7⟩
  obtain ⟨x0, x1, x2, u8⟩ := y
  obtain ⟨e10, h9⟩ := hy
  dsimp only at e10 h9
  subst e10
  show gQ (sb_171_9 217 x1 x2 u8) _
  unfold sb_171_9
  refine gQ_ite ?_ ?_
  · refine gQ_v1 (A := Eg g) (o_168 h9) (fun v4 s3 h11 => ?_)
    refine gQ_v1 (A := Eg g) (o_150 h11) (fun v6 s5 h12 => ?_)
    refine gQ_ite ?_ ?_
    · refine gQ_map ?_
      unfold fb_171_38
      refine gQ_v1 (A := Eg g) (o_266 h12) (fun v9 s8 h13 => ?_)
      refine gQ_ite ?_ ?_
      · refine gQ_loop (fun y => y.1 = 217 ∧ Eg g y.2.2.2.2) (fun y hy => ?_) ⟨rfl, h13⟩
        obtain ⟨x0, x1, x2, x3, u14⟩ := y
        obtain ⟨e16, h15⟩ := hy
        dsimp only at e16 h15
        subst e16
        show gQ (sb_171_55 217 x1 x2 x3 u14) _
        unfold sb_171_55
        dsimp only
        refine gQ_v1 (A := Eg g) (o_266 h15) (fun v11 s10 h17 => ?_)
        refine gQ_ite ?_ ?_
        · refine gQ_v1 (A := Eg g) (o_168 h17) (fun v13 s12 h18 => ?_)
          refine gQ_v1 (A := Eg g) (o_267 h18) (fun v15 s14 h19 => ?_)
          refine gQ_ite ?_ ?_
          · exact gQ_ret ⟨rfl, h19⟩
          · refine gQ_map ?_
            exact gQ_ret h19
        · refine gQ_map ?_
          exact gQ_ret (Eg_w h17 rfl)
      · exact gQ_ret h13
    · exact gQ_ret ⟨rfl, h12⟩
  · refine gQ_map ?_
    unfold fb_171_38
    refine gQ_v1 (A := Eg g) (o_266 h9) (fun v9 s8 h20 => ?_)
    refine gQ_ite ?_ ?_
    · refine gQ_loop (fun y => y.1 = 217 ∧ Eg g y.2.2.2.2) (fun y hy => ?_) ⟨rfl, h20⟩
      obtain ⟨x0, x1, x2, x3, u21⟩ := y
      obtain ⟨e23, h22⟩ := hy
      dsimp only at e23 h22
      subst e23
      show gQ (sb_171_55 217 x1 x2 x3 u21) _
      unfold sb_171_55
      dsimp only
      refine gQ_v1 (A := Eg g) (o_266 h22) (fun v11 s10 h24 => ?_)
      refine gQ_ite ?_ ?_
      · refine gQ_v1 (A := Eg g) (o_168 h24) (fun v13 s12 h25 => ?_)
        refine gQ_v1 (A := Eg g) (o_267 h25) (fun v15 s14 h26 => ?_)
        refine gQ_ite ?_ ?_
        · exact gQ_ret ⟨rfl, h26⟩
        · refine gQ_map ?_
          exact gQ_ret h26
      · refine gQ_map ?_
        exact gQ_ret (Eg_w h24 rfl)
    · exact gQ_ret h20

theorem o_172  {a1 : Int} {g s : gS}  (h : Eg g s) : gQ (f_172 217 a1 s) (fun r => Eg g r.2.2.2) := by
  unfold f_172
  dsimp only
  refine gQ_ite ?_ ?_
  · exact gQ_ret (Eg_w h rfl)
  · exact gQ_ret h

theorem o_173   {g s : gS}  (h : Eg g s) : gQ (f_173 217 s) (fun r => Eg g r.2.2.2) := by
  unfold f_173
  refine gQ_v0 (A := Eg g) (o_169 h) (fun s1 h27 => ?_)
  exact gQ_ret h27

theorem o_174  {a1 : Int} {a2 : Int} {g s : gS}  (h : Eg g s) : gQ (f_174 217 a1 a2 s) (fun r => Eg g r.2.2.2) := by
  unfold f_174
  refine gQ_ite ?_ ?_
  · refine gQ_v1 (A := Eg g) (o_173 h) (fun v2 s1 h28 => ?_)
    refine gQ_loop (fun y => y.1 = 217 ∧ Eg g y.2.2.2.2.2) (fun y hy => ?_) ⟨rfl, h28⟩
    obtain ⟨x0, x1, x2, x3, x4, u29⟩ := y
    obtain ⟨e31, h30⟩ := hy
    dsimp only at e31 h30
    subst e31
    show gQ (sb_174_18 217 x1 x2 x3 x4 u29) _
    unfold sb_174_18
    dsimp only
    refine gQ_ite ?_ ?_
    · refine gQ_v1 (A := Eg g) (o_168 h30) (fun v4 s3 h32 => ?_)
      refine gQ_v1 (A := Eg g) (o_150 h32) (fun v6 s5 h33 => ?_)
      refine gQ_ite ?_ ?_
      · refine gQ_map ?_
        unfold fb_174_89
        refine gQ_ite ?_ ?_
        · unfold fb_174_119
          refine gQ_v0 (A := Eg g) (o_172 h33) (fun s8 h34 => ?_)
          exact gQ_ret h34
        · refine gQ_ite ?_ ?_
          · unfold fb_174_119
            refine gQ_v0 (A := Eg g) (o_172 h33) (fun s8 h35 => ?_)
            exact gQ_ret h35
          · refine gQ_ite ?_ ?_
            · unfold fb_174_119
              refine gQ_v0 (A := Eg g) (o_172 h33) (fun s8 h36 => ?_)
              exact gQ_ret h36
            · refine gQ_ite ?_ ?_
              · unfold fb_174_119
                refine gQ_v0 (A := Eg g) (o_172 h33) (fun s8 h37 => ?_)
                exact gQ_ret h37
              · exact gQ_ret h33
      · refine gQ_ite ?_ ?_
        · refine gQ_map ?_
          unfold fb_174_89
          refine gQ_ite ?_ ?_
          · unfold fb_174_119
            refine gQ_v0 (A := Eg g) (o_172 h33) (fun s8 h38 => ?_)
            exact gQ_ret h38
          · refine gQ_ite ?_ ?_
            · unfold fb_174_119
              refine gQ_v0 (A := Eg g) (o_172 h33) (fun s8 h39 => ?_)
              exact gQ_ret h39
            · refine gQ_ite ?_ ?_
              · unfold fb_174_119
                refine gQ_v0 (A := Eg g) (o_172 h33) (fun s8 h40 => ?_)
                exact gQ_ret h40
              · refine gQ_ite ?_ ?_
                · unfold fb_174_119
                  refine gQ_v0 (A := Eg g) (o_172 h33) (fun s8 h41 => ?_)
                  exact gQ_ret h41
                · exact gQ_ret h33
        · refine gQ_v1 (A := Eg g) (o_168 h33) (fun v11 s10 h42 => ?_)
          exact gQ_ret ⟨rfl, (Eg_w h42 rfl)⟩
    · refine gQ_map ?_
      unfold fb_174_89
      refine gQ_ite ?_ ?_
      · unfold fb_174_119
        refine gQ_v0 (A := Eg g) (o_172 h30) (fun s8 h43 => ?_)
        exact gQ_ret h43
      · refine gQ_ite ?_ ?_
        · unfold fb_174_119
          refine gQ_v0 (A := Eg g) (o_172 h30) (fun s8 h44 => ?_)
          exact gQ_ret h44
        · refine gQ_ite ?_ ?_
          · unfold fb_174_119
            refine gQ_v0 (A := Eg g) (o_172 h30) (fun s8 h45 => ?_)
            exact gQ_ret h45
          · refine gQ_ite ?_ ?_
            · unfold fb_174_119
              refine gQ_v0 (A := Eg g) (o_172 h30) (fun s8 h46 => ?_)
              exact gQ_ret h46
            · exact gQ_ret h30
  · exact gQ_ret h

theorem o_188   {g s : gS}  (h : Eg g s) : gQ (f_188 217 s) (fun r => Eg g r.2.2.2) := by
  unfold f_188
  refine gQ_ite ?_ ?_
  · refine gQ_v0 (A := Eg g) (o_169 h) (fun s1 h47 => ?_)
    refine gQ_ite ?_ ?_
    · refine gQ_v1 (A := Eg g) (o_168 h47) (fun v4 s3 h48 => ?_)
      refine gQ_v1 (A := Eg g) (o_150 h48) (fun v6 s5 h49 => ?_)
      refine gQ_ite ?_ ?_
      · unfold fb_188_52
        refine gQ_v1 (A := Eg g) (o_171 h49) (fun v9 s8 h50 => ?_)
        refine gQ_ite ?_ ?_
        · refine gQ_v1 (A := Eg g) (o_171 h50) (fun v12 s11 h51 => ?_)
          refine gQ_ite ?_ ?_
          · refine gQ_v1 (A := Eg g) (o_171 h51) (fun v15 s14 h52 => ?_)
            refine gQ_ite ?_ ?_
            · refine gQ_v1 (A := Eg g) (o_171 h52) (fun v18 s17 h53 => ?_)
              refine gQ_ite ?_ ?_
              · refine gQ_v1 (A := Eg g) (o_171 h53) (fun v21 s20 h54 => ?_)
                refine gQ_ite ?_ ?_
                · refine gQ_v1 (A := Eg g) (o_171 h54) (fun v24 s23 h55 => ?_)
                  refine gQ_ite ?_ ?_
                  · refine gQ_v1 (A := Eg g) (o_171 h55) (fun v27 s26 h56 => ?_)
                    refine gQ_ite ?_ ?_
                    · unfold fb_188_145
                      refine gQ_ite ?_ ?_
                      · refine gQ_v0 (A := Eg g) (o_172 h56) (fun s29 h57 => ?_)
                        exact gQ_ret h57
                      · refine gQ_chk ?_
                        exact gQ_ret h56
                    · unfold fb_188_145
                      refine gQ_ite ?_ ?_
                      · refine gQ_v0 (A := Eg g) (o_172 h56) (fun s29 h58 => ?_)
                        exact gQ_ret h58
                      · refine gQ_chk ?_
                        exact gQ_ret h56
                  · unfold fb_188_145
                    refine gQ_ite ?_ ?_
                    · refine gQ_v0 (A := Eg g) (o_172 h55) (fun s29 h59 => ?_)
                      exact gQ_ret h59
                    · refine gQ_chk ?_
                      exact gQ_ret h55
                · unfold fb_188_145
                  refine gQ_ite ?_ ?_
                  · refine gQ_v0 (A := Eg g) (o_172 h54) (fun s29 h60 => ?_)
                    exact gQ_ret h60
                  · refine gQ_chk ?_
                    exact gQ_ret h54
              · unfold fb_188_145
                refine gQ_ite ?_ ?_
                · refine gQ_v0 (A := Eg g) (o_172 h53) (fun s29 h61 => ?_)
                  exact gQ_ret h61
                · refine gQ_chk ?_
                  exact gQ_ret h53
            · unfold fb_188_145
              refine gQ_ite ?_ ?_
              · refine gQ_v0 (A := Eg g) (o_172 h52) (fun s29 h62 => ?_)
                exact gQ_ret h62
              · refine gQ_chk ?_
                exact gQ_ret h52
          · unfold fb_188_145
            refine gQ_ite ?_ ?_
            · refine gQ_v0 (A := Eg g) (o_172 h51) (fun s29 h63 => ?_)
              exact gQ_ret h63
            · refine gQ_chk ?_
              exact gQ_ret h51
        · unfold fb_188_145
          refine gQ_ite ?_ ?_
          · refine gQ_v0 (A := Eg g) (o_172 h50) (fun s29 h64 => ?_)
            exact gQ_ret h64
          · refine gQ_chk ?_
            exact gQ_ret h50
      · refine gQ_v1 (A := Eg g) (o_174 h49) (fun v32 s31 h65 => ?_)
        exact gQ_ret h65
    · unfold fb_188_52
      refine gQ_v1 (A := Eg g) (o_171 h47) (fun v9 s8 h66 => ?_)
      refine gQ_ite ?_ ?_
      · refine gQ_v1 (A := Eg g) (o_171 h66) (fun v12 s11 h67 => ?_)
        refine gQ_ite ?_ ?_
        · refine gQ_v1 (A := Eg g) (o_171 h67) (fun v15 s14 h68 => ?_)
          refine gQ_ite ?_ ?_
          · refine gQ_v1 (A := Eg g) (o_171 h68) (fun v18 s17 h69 => ?_)
            refine gQ_ite ?_ ?_
            · refine gQ_v1 (A := Eg g) (o_171 h69) (fun v21 s20 h70 => ?_)
              refine gQ_ite ?_ ?_
              · refine gQ_v1 (A := Eg g) (o_171 h70) (fun v24 s23 h71 => ?_)
                refine gQ_ite ?_ ?_
                · refine gQ_v1 (A := Eg g) (o_171 h71) (fun v27 s26 h72 => ?_)
                  refine gQ_ite ?_ ?_
                  · unfold fb_188_145
                    refine gQ_ite ?_ ?_
                    · refine gQ_v0 (A := Eg g) (o_172 h72) (fun s29 h73 => ?_)
                      exact gQ_ret h73
                    · refine gQ_chk ?_
                      exact gQ_ret h72
                  · unfold fb_188_145
                    refine gQ_ite ?_ ?_
                    · refine gQ_v0 (A := Eg g) (o_172 h72) (fun s29 h74 => ?_)
                      exact gQ_ret h74
                    · refine gQ_chk ?_
                      exact gQ_ret h72
                · unfold fb_188_145
                  refine gQ_ite ?_ ?_
                  · refine gQ_v0 (A := Eg g) (o_172 h71) (fun s29 h75 => ?_)
                    exact gQ_ret h75
                  · refine gQ_chk ?_
                    exact gQ_ret h71
              · unfold fb_188_145
                refine gQ_ite ?_ ?_
                · refine gQ_v0 (A := Eg g) (o_172 h70) (fun s29 h76 => ?_)
                  exact gQ_ret h76
                · refine gQ_chk ?_
                  exact gQ_ret h70
            · unfold fb_188_145
              refine gQ_ite ?_ ?_
              · refine gQ_v0 (A := Eg g) (o_172 h69) (fun s29 h77 => ?_)
                exact gQ_ret h77
              · refine gQ_chk ?_
                exact gQ_ret h69
          · unfold fb_188_145
            refine gQ_ite ?_ ?_
            · refine gQ_v0 (A := Eg g) (o_172 h68) (fun s29 h78 => ?_)
              exact gQ_ret h78
            · refine gQ_chk ?_
              exact gQ_ret h68
        · unfold fb_188_145
          refine gQ_ite ?_ ?_
          · refine gQ_v0 (A := Eg g) (o_172 h67) (fun s29 h79 => ?_)
            exact gQ_ret h79
          · refine gQ_chk ?_
            exact gQ_ret h67
      · unfold fb_188_145
        refine gQ_ite ?_ ?_
        · refine gQ_v0 (A := Eg g) (o_172 h66) (fun s29 h80 => ?_)
          exact gQ_ret h80
        · refine gQ_chk ?_
          exact gQ_ret h66
  · exact gQ_ret h

theorem o_189   {g s : gS}  (h : Eg g s) : gQ (f_189 217 s) (fun r => Eg g r.2.2.2) := by
  unfold f_189
  refine gQ_v1 (A := Eg g) (o_188 h) (fun v2 s1 h81 => ?_)
  refine gQ_loop (fun y => y.1 = 217 ∧ Eg g y.2.2) (fun y hy => ?_) ⟨rfl, h81⟩
  obtain ⟨x0, x1, u82⟩ := y
  obtain ⟨e84, h83⟩ := hy
  dsimp only at e84 h83
  subst e84
  show gQ (sb_189_5 217 x1 u82) _
  unfold sb_189_5
  dsimp only
  refine gQ_ite ?_ ?_
  · refine gQ_v1 (A := Eg g) (o_170 h83) (fun v4 s3 h85 => ?_)
    refine gQ_ite ?_ ?_
    · refine gQ_map ?_
      exact gQ_ret h85
    · refine gQ_v1 (A := Eg g) (o_188 (Eg_w h85 rfl)) (fun v8 s7 h86 => ?_)
      exact gQ_ret ⟨rfl, h86⟩
  · refine gQ_map ?_
    exact gQ_ret h83

theorem o_190   {g s : gS}  (h : Eg g s) : gQ (f_190 217 s) (fun r => Eg g r.2.2.2) := by
  unfold f_190
  refine gQ_v1 (A := Eg g) (o_171 h) (fun v2 s1 h87 => ?_)
  refine gQ_ite ?_ ?_
  · refine gQ_v1 (A := Eg g) (o_171 h87) (fun v5 s4 h88 => ?_)
    refine gQ_ite ?_ ?_
    · refine gQ_v1 (A := Eg g) (o_189 h88) (fun v8 s7 h89 => ?_)
      refine gQ_ite ?_ ?_
      · refine gQ_v1 (A := Eg g) (o_170 h89) (fun v10 s9 h90 => ?_)
        refine gQ_ite ?_ ?_
        · refine gQ_v1 (A := Eg g) (o_170 h90) (fun v13 s12 h91 => ?_)
          refine gQ_ite ?_ ?_
          · refine gQ_v0 (A := Eg g) (o_172 h91) (fun s15 h92 => ?_)
            exact gQ_ret h92
          · unfold fb_190_73
            dsimp only
            refine gQ_v1 (A := Eg g) (o_189 (Eg_w h91 rfl)) (fun v19 s18 h93 => ?_)
            refine gQ_ite ?_ ?_
            · refine gQ_ite ?_ ?_
              · exact gQ_ret h93
              · exact gQ_ret h93
            · refine gQ_ite ?_ ?_
              · exact gQ_ret h93
              · exact gQ_ret h93
        · unfold fb_190_73
          dsimp only
          refine gQ_v1 (A := Eg g) (o_189 (Eg_w h90 rfl)) (fun v19 s18 h94 => ?_)
          refine gQ_ite ?_ ?_
          · refine gQ_ite ?_ ?_
            · exact gQ_ret h94
            · exact gQ_ret h94
          · refine gQ_ite ?_ ?_
            · exact gQ_ret h94
            · exact gQ_ret h94
      · exact gQ_ret h89
    · refine gQ_bool ?_
      exact gQ_ret h88
  · refine gQ_bool ?_
    exact gQ_ret h87

theorem o_fo_191 {r_191 : Nat → gS → Option gO} {r_193 : Nat → gS → Option gO}  {g s : gS} (hr_191 : ∀ {s : gS}, Eg g s → gQ (r_191 217 s) (fun r => Eg g r.2.2.2)) (hr_193 : ∀ {s : gS}, Eg g s → gQ (r_193 217 s) (fun r => Eg g r.2.2.2)) (h : Eg g s) : gQ (fo_191 r_191 r_193 217 s) (fun r => Eg g r.2.2.2) := by
  unfold fo_191
  refine gQ_ite ?_ ?_
  · refine gQ_v1 (A := Eg g) (o_173 h) (fun v2 s1 h95 => ?_)
    refine gQ_v1 (A := Eg g) (o_171 h95) (fun v4 s3 h96 => ?_)
    refine gQ_ite ?_ ?_
    · refine gQ_v1 (A := Eg g) (o_170 h96) (fun v7 s6 h97 => ?_)
      refine gQ_ite ?_ ?_
      · refine gQ_v1 (A := Eg g) (o_190 h97) (fun v10 s9 h98 => ?_)
        exact gQ_ret h98
      · unfold fb_191_40
        dsimp only
        refine gQ_ite ?_ ?_
        · refine gQ_v0 (A := Eg g) (o_172 h97) (fun s12 h99 => ?_)
          exact gQ_ret h99
        · refine gQ_ite ?_ ?_
          · refine gQ_v1 (A := Eg g) (hr_193 (Eg_w (Eg_w h97 rfl) rfl)) (fun v17 s16 h100 => ?_)
            refine gQ_ite ?_ ?_
            · refine gQ_v1 (A := Eg g) (o_170 h100) (fun v20 s19 h101 => ?_)
              refine gQ_ite ?_ ?_
              · refine gQ_v0 (A := Eg g) (o_172 h101) (fun s22 h102 => ?_)
                unfold fb_191_128
                dsimp only
                unfold fb_191_138
                dsimp only
                refine gQ_bool ?_
                exact gQ_ret (Eg_w (Eg_w h102 rfl) rfl)
              · unfold fb_191_128
                dsimp only
                unfold fb_191_138
                dsimp only
                refine gQ_bool ?_
                exact gQ_ret (Eg_w (Eg_w h101 rfl) rfl)
            · unfold fb_191_128
              dsimp only
              unfold fb_191_138
              dsimp only
              refine gQ_bool ?_
              exact gQ_ret (Eg_w (Eg_w h100 rfl) rfl)
          · refine gQ_v1 (A := Eg g) (hr_191 (Eg_w h97 rfl)) (fun v27 s26 h103 => ?_)
            refine gQ_ite ?_ ?_
            · unfold fb_191_138
              dsimp only
              refine gQ_bool ?_
              exact gQ_ret (Eg_w h103 rfl)
            · unfold fb_191_138
              dsimp only
              refine gQ_bool ?_
              exact gQ_ret (Eg_w h103 rfl)
    · unfold fb_191_40
      dsimp only
      refine gQ_ite ?_ ?_
      · refine gQ_v0 (A := Eg g) (o_172 h96) (fun s12 h104 => ?_)
        exact gQ_ret h104
      · refine gQ_ite ?_ ?_
        · refine gQ_v1 (A := Eg g) (hr_193 (Eg_w (Eg_w h96 rfl) rfl)) (fun v17 s16 h105 => ?_)
          refine gQ_ite ?_ ?_
          · refine gQ_v1 (A := Eg g) (o_170 h105) (fun v20 s19 h106 => ?_)
            refine gQ_ite ?_ ?_
            · refine gQ_v0 (A := Eg g) (o_172 h106) (fun s22 h107 => ?_)
              unfold fb_191_128
              dsimp only
              unfold fb_191_138
              dsimp only
              refine gQ_bool ?_
              exact gQ_ret (Eg_w (Eg_w h107 rfl) rfl)
            · unfold fb_191_128
              dsimp only
              unfold fb_191_138
              dsimp only
              refine gQ_bool ?_
              exact gQ_ret (Eg_w (Eg_w h106 rfl) rfl)
          · unfold fb_191_128
            dsimp only
            unfold fb_191_138
            dsimp only
            refine gQ_bool ?_
            exact gQ_ret (Eg_w (Eg_w h105 rfl) rfl)
        · refine gQ_v1 (A := Eg g) (hr_191 (Eg_w h96 rfl)) (fun v27 s26 h108 => ?_)
          refine gQ_ite ?_ ?_
          · unfold fb_191_138
            dsimp only
            refine gQ_bool ?_
            exact gQ_ret (Eg_w h108 rfl)
          · unfold fb_191_138
            dsimp only
            refine gQ_bool ?_
            exact gQ_ret (Eg_w h108 rfl)
  · exact gQ_ret h

theorem o_fo_192 {r_191 : Nat → gS → Option gO}  {g s : gS} (hr_191 : ∀ {s : gS}, Eg g s → gQ (r_191 217 s) (fun r => Eg g r.2.2.2)) (h : Eg g s) : gQ (fo_192 r_191 217 s) (fun r => Eg g r.2.2.2) := by
  unfold fo_192
  refine gQ_v1 (A := Eg g) (hr_191 h) (fun v2 s1 h109 => ?_)
  refine gQ_loop (fun y => y.1 = 217 ∧ Eg g y.2.2) (fun y hy => ?_) ⟨rfl, h109⟩
  obtain ⟨x0, x1, u110⟩ := y
  obtain ⟨e112, h111⟩ := hy
  dsimp only at e112 h111
  subst e112
  show gQ (sb_192_5 r_191 217 x1 u110) _
  unfold sb_192_5
  refine gQ_ite ?_ ?_
  · refine gQ_v1 (A := Eg g) (o_171 h111) (fun v5 s4 h113 => ?_)
    refine gQ_ite ?_ ?_
    · refine gQ_map ?_
      refine gQ_bool ?_
      exact gQ_ret h113
    · refine gQ_v1 (A := Eg g) (hr_191 h113) (fun v8 s7 h114 => ?_)
      refine gQ_ite ?_ ?_
      · unfold fb_192_39
        exact gQ_ret ⟨rfl, h114⟩
      · refine gQ_ite ?_ ?_
        · unfold fb_192_39
          exact gQ_ret ⟨rfl, h114⟩
        · exact gQ_ret ⟨rfl, h114⟩
  · refine gQ_map ?_
    refine gQ_bool ?_
    exact gQ_ret h111

theorem o_fo_193 {r_192 : Nat → gS → Option gO}  {g s : gS} (hr_192 : ∀ {s : gS}, Eg g s → gQ (r_192 217 s) (fun r => Eg g r.2.2.2)) (h : Eg g s) : gQ (fo_193 r_192 217 s) (fun r => Eg g r.2.2.2) := by
  unfold fo_193
  refine gQ_v1 (A := Eg g) (hr_192 h) (fun v2 s1 h115 => ?_)
  refine gQ_loop (fun y => y.1 = 217 ∧ Eg g y.2.2) (fun y hy => ?_) ⟨rfl, h115⟩
  obtain ⟨x0, x1, u116⟩ := y
  obtain ⟨e118, h117⟩ := hy
  dsimp only at e118 h117
  subst e118
  show gQ (sb_193_5 r_192 217 x1 u116) _
  unfold sb_193_5
  refine gQ_ite ?_ ?_
  · refine gQ_v1 (A := Eg g) (o_171 h117) (fun v5 s4 h119 => ?_)
    refine gQ_ite ?_ ?_
    · refine gQ_map ?_
      refine gQ_bool ?_
      exact gQ_ret h119
    · refine gQ_v1 (A := Eg g) (hr_192 h119) (fun v8 s7 h120 => ?_)
      refine gQ_ite ?_ ?_
      · refine gQ_ite ?_ ?_
        · exact gQ_ret ⟨rfl, h120⟩
        · exact gQ_ret ⟨rfl, h120⟩
      · exact gQ_ret ⟨rfl, h120⟩
  · refine gQ_map ?_
    refine gQ_bool ?_
    exact gQ_ret h117

theorem o_rgm (n : Nat) : ∀ {g s : gS}, Eg g s → gQ (fn_191 n 217 s) (fun r => Eg g r.2.2.2) ∧ gQ (fn_192 n 217 s) (fun r => Eg g r.2.2.2) ∧ gQ (fn_193 n 217 s) (fun r => Eg g r.2.2.2) := by
  induction n with
  | zero => intro g s h; exact ⟨gQ_none, gQ_none, gQ_none⟩
  | succ n ih =>
    intro g s h
    exact ⟨o_fo_191 (r_191 := fn_191 n) (r_193 := fn_193 n) (fun h => (ih h).1) (fun h => (ih h).2.2) h, o_fo_192 (r_191 := fn_191 n) (fun h => (ih h).1) h, o_fo_193 (r_192 := fn_192 n) (fun h => (ih h).2.1) h⟩
theorem o_193 {g s : gS} (h : Eg g s) : gQ (f_193 217 s) (fun r => Eg g r.2.2.2) := (o_rgm 24 h).2.2

theorem o_194   {g s : gS}  (h : Eg g s) : gQ (f_194 217 s) (fun r => Eg g r.2.2.2) := by
  unfold f_194
  refine gQ_v1 (A := Eg g) (o_171 h) (fun v2 s1 h121 => ?_)
  refine gQ_ite ?_ ?_
  · refine gQ_v1 (A := Eg g) (o_171 h121) (fun v5 s4 h122 => ?_)
    refine gQ_ite ?_ ?_
    · refine gQ_v0 (A := Eg g) (o_172 h122) (fun s7 h123 => ?_)
      exact gQ_ret h123
    · unfold fb_194_29
      refine gQ_v1 (A := Eg g) (o_174 h122) (fun v10 s9 h124 => ?_)
      refine gQ_ite ?_ ?_
      · refine gQ_v1 (A := Eg g) (o_171 h124) (fun v12 s11 h125 => ?_)
        refine gQ_ite ?_ ?_
        · unfold fb_194_67
          refine gQ_ite ?_ ?_
          · rw [if_neg (by decide)]
            refine gQ_ite ?_ ?_
            · unfold fb_194_95
              dsimp only
              exact gQ_ret (Eg_w h125 rfl)
            · unfold fb_194_95
              dsimp only
              exact gQ_ret (Eg_w h125 rfl)
          · exact gQ_ret h125
        · refine gQ_v1 (A := Eg g) (o_193 h125) (fun v16 s15 h126 => ?_)
          refine gQ_ite ?_ ?_
          · unfold fb_194_67
            refine gQ_ite ?_ ?_
            · refine gQ_ite ?_ ?_
              · exact gQ_ret h126
              · refine gQ_ite ?_ ?_
                · unfold fb_194_95
                  dsimp only
                  exact gQ_ret (Eg_w h126 rfl)
                · unfold fb_194_95
                  dsimp only
                  exact gQ_ret (Eg_w h126 rfl)
            · exact gQ_ret h126
          · unfold fb_194_67
            refine gQ_ite ?_ ?_
            · rw [if_neg (by decide)]
              refine gQ_ite ?_ ?_
              · unfold fb_194_95
                dsimp only
                exact gQ_ret (Eg_w h126 rfl)
              · unfold fb_194_95
                dsimp only
                exact gQ_ret (Eg_w h126 rfl)
            · exact gQ_ret h126
      · exact gQ_ret h124
  · unfold fb_194_29
    refine gQ_v1 (A := Eg g) (o_174 h121) (fun v10 s9 h127 => ?_)
    refine gQ_ite ?_ ?_
    · refine gQ_v1 (A := Eg g) (o_171 h127) (fun v12 s11 h128 => ?_)
      refine gQ_ite ?_ ?_
      · unfold fb_194_67
        refine gQ_ite ?_ ?_
        · rw [if_neg (by decide)]
          refine gQ_ite ?_ ?_
          · unfold fb_194_95
            dsimp only
            exact gQ_ret (Eg_w h128 rfl)
          · unfold fb_194_95
            dsimp only
            exact gQ_ret (Eg_w h128 rfl)
        · exact gQ_ret h128
      · refine gQ_v1 (A := Eg g) (o_193 h128) (fun v16 s15 h129 => ?_)
        refine gQ_ite ?_ ?_
        · unfold fb_194_67
          refine gQ_ite ?_ ?_
          · refine gQ_ite ?_ ?_
            · exact gQ_ret h129
            · refine gQ_ite ?_ ?_
              · unfold fb_194_95
                dsimp only
                exact gQ_ret (Eg_w h129 rfl)
              · unfold fb_194_95
                dsimp only
                exact gQ_ret (Eg_w h129 rfl)
          · exact gQ_ret h129
        · unfold fb_194_67
          refine gQ_ite ?_ ?_
          · rw [if_neg (by decide)]
            refine gQ_ite ?_ ?_
            · unfold fb_194_95
              dsimp only
              exact gQ_ret (Eg_w h129 rfl)
            · unfold fb_194_95
              dsimp only
              exact gQ_ret (Eg_w h129 rfl)
          · exact gQ_ret h129
    · exact gQ_ret h127

theorem o_184   {g s : gS}  (h : Eg g s) : gQ (f_184 217 1 s) (fun r => Eg g r.2.2.2) := by
  unfold f_184
  refine gQ_v0 (A := Eg g) (o_169 h) (fun s1 h130 => ?_)
  refine gQ_ite ?_ ?_
  · unfold fb_184_20
    refine gQ_loop (fun y => y.1 = 217 ∧ y.2.1 = 1 ∧ Eg g y.2.2.2.2) (fun y hy => ?_) ⟨rfl, rfl, h130⟩
    obtain ⟨x0, x1, x2, x3, u131⟩ := y
    obtain ⟨e133, e134, h132⟩ := hy
    dsimp only at e133 e134 h132
    subst e133 e134
    show gQ (sb_184_23 217 1 x2 x3 u131) _
    unfold sb_184_23
    refine gQ_ite ?_ ?_
    · refine gQ_map ?_
      exact gQ_ret h132
    · refine gQ_ite ?_ ?_
      · refine gQ_v0 (A := Eg g) (o_169 h132) (fun s3 h135 => ?_)
        rw [if_neg (by decide)]
        unfold fb_184_51
        refine gQ_ite ?_ ?_
        · refine gQ_v0 (A := Eg g) (o_172 h135) (fun s5 h136 => ?_)
          unfold fb_184_80
          dsimp only
          refine gQ_v0 (A := Eg g) (o_169 h136) (fun s7 h137 => ?_)
          refine gQ_ite ?_ ?_
          · refine gQ_ite ?_ ?_
            · exact gQ_ret ⟨rfl, rfl, h137⟩
            · refine gQ_v1 (A := Eg g) (o_170 h137) (fun v10 s9 h138 => ?_)
              refine gQ_ite ?_ ?_
              · refine gQ_v0 (A := Eg g) (o_172 h138) (fun s12 h139 => ?_)
                exact gQ_ret ⟨rfl, rfl, h139⟩
              · exact gQ_ret ⟨rfl, rfl, (Eg_w h138 rfl)⟩
          · exact gQ_ret ⟨rfl, rfl, h137⟩
        · rw [if_neg (by decide)]
          refine gQ_v0 (A := Eg g) (o_194 h135) (fun s17 h140 => ?_)
          unfold fb_184_80
          dsimp only
          refine gQ_v0 (A := Eg g) (o_169 h140) (fun s7 h141 => ?_)
          refine gQ_ite ?_ ?_
          · refine gQ_ite ?_ ?_
            · exact gQ_ret ⟨rfl, rfl, h141⟩
            · refine gQ_v1 (A := Eg g) (o_170 h141) (fun v10 s9 h142 => ?_)
              refine gQ_ite ?_ ?_
              · refine gQ_v0 (A := Eg g) (o_172 h142) (fun s12 h143 => ?_)
                exact gQ_ret ⟨rfl, rfl, h143⟩
              · exact gQ_ret ⟨rfl, rfl, (Eg_w h142 rfl)⟩
          · exact gQ_ret ⟨rfl, rfl, h141⟩
      · refine gQ_map ?_
        exact gQ_ret h132
  · unfold fb_184_20
    refine gQ_loop (fun y => y.1 = 217 ∧ y.2.1 = 1 ∧ Eg g y.2.2.2.2) (fun y hy => ?_) ⟨rfl, rfl, h130⟩
    obtain ⟨x0, x1, x2, x3, u144⟩ := y
    obtain ⟨e146, e147, h145⟩ := hy
    dsimp only at e146 e147 h145
    subst e146 e147
    show gQ (sb_184_23 217 1 x2 x3 u144) _
    unfold sb_184_23
    refine gQ_ite ?_ ?_
    · refine gQ_map ?_
      exact gQ_ret h145
    · refine gQ_ite ?_ ?_
      · refine gQ_v0 (A := Eg g) (o_169 h145) (fun s3 h148 => ?_)
        rw [if_neg (by decide)]
        unfold fb_184_51
        refine gQ_ite ?_ ?_
        · refine gQ_v0 (A := Eg g) (o_172 h148) (fun s5 h149 => ?_)
          unfold fb_184_80
          dsimp only
          refine gQ_v0 (A := Eg g) (o_169 h149) (fun s7 h150 => ?_)
          refine gQ_ite ?_ ?_
          · refine gQ_ite ?_ ?_
            · exact gQ_ret ⟨rfl, rfl, h150⟩
            · refine gQ_v1 (A := Eg g) (o_170 h150) (fun v10 s9 h151 => ?_)
              refine gQ_ite ?_ ?_
              · refine gQ_v0 (A := Eg g) (o_172 h151) (fun s12 h152 => ?_)
                exact gQ_ret ⟨rfl, rfl, h152⟩
              · exact gQ_ret ⟨rfl, rfl, (Eg_w h151 rfl)⟩
          · exact gQ_ret ⟨rfl, rfl, h150⟩
        · rw [if_neg (by decide)]
          refine gQ_v0 (A := Eg g) (o_194 h148) (fun s17 h153 => ?_)
          unfold fb_184_80
          dsimp only
          refine gQ_v0 (A := Eg g) (o_169 h153) (fun s7 h154 => ?_)
          refine gQ_ite ?_ ?_
          · refine gQ_ite ?_ ?_
            · exact gQ_ret ⟨rfl, rfl, h154⟩
            · refine gQ_v1 (A := Eg g) (o_170 h154) (fun v10 s9 h155 => ?_)
              refine gQ_ite ?_ ?_
              · refine gQ_v0 (A := Eg g) (o_172 h155) (fun s12 h156 => ?_)
                exact gQ_ret ⟨rfl, rfl, h156⟩
              · exact gQ_ret ⟨rfl, rfl, (Eg_w h155 rfl)⟩
          · exact gQ_ret ⟨rfl, rfl, h154⟩
      · refine gQ_map ?_
        exact gQ_ret h145
