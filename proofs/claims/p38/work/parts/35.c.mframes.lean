/-- the model's own drafts; and what days and acts change of its row -/
def mss (a k : Nat) : Bool := (Nat.ble 223 a && Nat.ble a 230) || (Nat.beq a 217 && !(Nat.beq k 3 || Nat.beq k 6))
def mnt (k : Nat) : Bool := (Nat.ble 7 k && Nat.ble k 9) || ((Nat.ble 13 k && Nat.ble k 14) || ((Nat.ble 40 k && (Nat.ble k 75 && !Nat.beq (k % 6) 0)) || (Nat.ble 88 k && Nat.ble k 339)))
def msd (a k : Nat) : Bool := mss a k || (Nat.beq a 218 && mnt k)
theorem mqd_o {W : Nat → Nat → Bool} (h : ∀ a k, msd a k = true → W a k = true) : ∀ a k, mss a k = true → W a k = true := fun a k hq => h a k (by
  unfold msd
  rw [hq]
  rfl)
section Mq
variable {W : Nat → Nat → Bool} {g s : gS}
theorem om_266 {a : Nat} (h : Fw W g s) : gQ (f_266 a s) (fun r => Fw W g r.2.2.2) := gQ_ret h
theorem om_267 {a : Nat} {j : Int} (h : Fw W g s) : gQ (f_267 a j s) (fun r => Fw W g r.2.2.2) := gQ_chk (gQ_ret h)
/-- the law's reading -/
theorem om_184 {a0 : Nat} {a1 : Int} (hg : RF g) (hU : ∀ a k, mss a k = true → W a k = true) (e0 : a0 = 217) (e1 : a1 = 1) (h : Fw W g s) : gQ (f_184 a0 a1 s) (fun r => Fw W g r.2.2.2) := by
  subst e0 e1
  intro r hr
  have hE : Eg s s := ⟨⟨rfl, rfl, rfl⟩, ⟨fr_r h rfl (rr_217_1 hg), fr_r h rfl (rr_217_7 hg), fr_r h rfl (rr_217_14 hg), fr_r h rfl (rr_217_22 hg)⟩, fun _ _ _ => rfl⟩
  have hq := o_184 hE r hr
  obtain ⟨⟨q1_l, q2_l, q3_l⟩, -, q4_l⟩ := hq
  have hn : gn r.2.2.2 = gn s := q1_l
  refine ⟨⟨h.1.1, by rw [hn]; exact h.1.2.1, fun a ha_l => ?_⟩, fun a k ha_l => ?_, fun a k ha_l hf => ?_⟩
  · show r.2.2.2.2.1 a = _
    rw [q2_l]
    exact h.1.2.2 a ha_l
  · show r.2.2.2.2.2.2 a k = _
    rw [q3_l]
    exact h.2.1 a k ha_l
  · refine (q4_l a k ?_).trans (h.2.2 a k ha_l hf)
    cases hc : scb a k with
    | false => rfl
    | true =>
      have hm_l : mss a k = true := by
        unfold scb at hc
        unfold mss
        simp only [Bool.or_eq_true, Bool.and_eq_true, es_beq, es_blt, Nat.ble_eq, Bool.not_eq_true', Bool.or_eq_false_iff, es_beqf] at hc ⊢
        omega
      rw [hU a k hm_l] at hf
      cases hf
end Mq
theorem om_150 {W : Nat → Nat → Bool} {g s : gS} {a0 : Int} {a1 : Int} {a2 : Int} (hg_o : RF g) (hU_o : ∀ a k, mss a k = true → W a k = true)  (h_o : Fw W g s) : gQ (f_150 a0 a1 a2 s) (fun r => Fw W g r.2.2.2) := by
  unfold f_150
  refine gQ_ite ?_ ?_
  · unfold fb_150_14
    exact gQ_ret h_o
  · refine gQ_ite ?_ ?_
    · unfold fb_150_14
      exact gQ_ret h_o
    · exact gQ_ret h_o

theorem om_151 {W : Nat → Nat → Bool} {g s : gS} {a0 : Int} {a1 : Int} (hg_o : RF g) (hU_o : ∀ a k, mss a k = true → W a k = true)  (h_o : Fw W g s) : gQ (f_151 a0 a1 s) (fun r => Fw W g r.2.2.2) := by
  unfold f_151
  refine gQ_ite ?_ ?_
  · exact gQ_ret h_o
  · exact gQ_ret h_o

theorem om_152 {W : Nat → Nat → Bool} {g s : gS} {a0 : Int} {a1 : Int} (hg_o : RF g) (hU_o : ∀ a k, mss a k = true → W a k = true)  (h_o : Fw W g s) : gQ (f_152 a0 a1 s) (fun r => Fw W g r.2.2.2) := by
  unfold f_152
  refine gQ_ite ?_ ?_
  · exact gQ_ret h_o
  · exact gQ_ret h_o

theorem om_153 {W : Nat → Nat → Bool} {g s : gS} {a0 : Int} {a1 : Int} (hg_o : RF g) (hU_o : ∀ a k, mss a k = true → W a k = true)  (h_o : Fw W g s) : gQ (f_153 a0 a1 s) (fun r => Fw W g r.2.2.2) := by
  unfold f_153
  refine gQ_ite ?_ ?_
  · exact gQ_ret h_o
  · exact gQ_ret h_o

theorem om_154 {W : Nat → Nat → Bool} {g s : gS} {a0 : Int} (hg_o : RF g) (hU_o : ∀ a k, mss a k = true → W a k = true)  (h_o : Fw W g s) : gQ (f_154 a0 s) (fun r => Fw W g r.2.2.2) := by
  unfold f_154
  refine gQ_loop (fun y_l => Fw W g (y_l.2.2.2)) (fun y_l hy_o => ?_) h_o
  obtain ⟨x724_o, x725_o, x726_o, x727_o⟩ := y_l
  have h728_o := hy_o
  dsimp only at h728_o
  show gQ (sb_154_4 x724_o x725_o x726_o x727_o) _
  unfold sb_154_4
  dsimp only
  refine gQ_ite ?_ ?_
  · exact gQ_ret h728_o
  · refine gQ_map ?_
    exact gQ_ret h728_o

theorem om_155 {W : Nat → Nat → Bool} {g s : gS} {a0 : Nat} {a1 : Int} {a2 : Int} (hg_o : RF g) (hU_o : ∀ a k, mss a k = true → W a k = true) (ea0_o : a0 = 217) (h_o : Fw W g s) : gQ (f_155 a0 a1 a2 s) (fun r => Fw W g r.2.2.2) := by
  subst ea0_o
  unfold f_155
  refine gQ_chk2 (fun ha729_o hb730_o => ?_)
  exact gQ_ret h_o

theorem om_156 {W : Nat → Nat → Bool} {g s : gS} {a0 : Nat} {a1 : Int} {a2 : Int} (hg_o : RF g) (hU_o : ∀ a k, mss a k = true → W a k = true) (ea0_o : a0 = 217) (h_o : Fw W g s) : gQ (f_156 a0 a1 a2 s) (fun r => Fw W g r.2.2.2) := by
  subst ea0_o
  unfold f_156
  refine gQ_chk2 (fun ha731_o hb732_o => ?_)
  exact gQ_ret h_o

theorem om_158 {W : Nat → Nat → Bool} {g s : gS} {a0 : Nat} {a1 : Int} (hg_o : RF g) (hU_o : ∀ a k, mss a k = true → W a k = true) (ea0_o : a0 = 217) (h_o : Fw W g s) : gQ (f_158 a0 a1 s) (fun r => Fw W g r.2.2.2) := by
  subst ea0_o
  unfold f_158
  refine gQ_chk2 (fun ha733_o hb734_o => ?_)
  exact gQ_ret h_o

theorem om_159 {W : Nat → Nat → Bool} {g s : gS} {a0 : Nat} {a1 : Int} (hg_o : RF g) (hU_o : ∀ a k, mss a k = true → W a k = true) (ea0_o : a0 = 217) (h_o : Fw W g s) : gQ (f_159 a0 a1 s) (fun r => Fw W g r.2.2.2) := by
  subst ea0_o
  unfold f_159
  refine gQ_chk2 (fun ha735_o hb736_o => ?_)
  exact gQ_ret h_o

theorem om_160 {W : Nat → Nat → Bool} {g s : gS} {a0 : Nat} {a1 : Int} {a2 : Int} (hg_o : RF g) (hU_o : ∀ a k, mss a k = true → W a k = true) (ea0_o : a0 = 217) (h_o : Fw W g s) : gQ (f_160 a0 a1 a2 s) (fun r => Fw W g r.2.2.2) := by
  subst ea0_o
  unfold f_160
  refine gQ_chk2 (fun ha737_o hb738_o => ?_)
  exact gQ_ret h_o

theorem om_161 {W : Nat → Nat → Bool} {g s : gS} {a0 : Nat} {a1 : Int} (hg_o : RF g) (hU_o : ∀ a k, mss a k = true → W a k = true) (ea0_o : a0 = 217) (h_o : Fw W g s) : gQ (f_161 a0 a1 s) (fun r => Fw W g r.2.2.2) := by
  subst ea0_o
  unfold f_161
  refine gQ_v1 (A := Fw W g) (om_150 hg_o hU_o  h_o) (fun v2 s1_l h739_o => ?_)
  exact gQ_ret h739_o

theorem om_162 {W : Nat → Nat → Bool} {g s : gS} {a0 : Nat} {a1 : Int} (hg_o : RF g) (hU_o : ∀ a k, mss a k = true → W a k = true) (ea0_o : a0 = 217) (h_o : Fw W g s) : gQ (f_162 a0 a1 s) (fun r => Fw W g r.2.2.2) := by
  subst ea0_o
  unfold f_162
  refine gQ_v1 (A := Fw W g) (om_150 hg_o hU_o  h_o) (fun v2 s1_l h740_o => ?_)
  exact gQ_ret h740_o

theorem om_163 {W : Nat → Nat → Bool} {g s : gS} {a0 : Nat} {a1 : Int} (hg_o : RF g) (hU_o : ∀ a k, mss a k = true → W a k = true) (ea0_o : a0 = 217) (h_o : Fw W g s) : gQ (f_163 a0 a1 s) (fun r => Fw W g r.2.2.2) := by
  subst ea0_o
  unfold f_163
  refine gQ_v1 (A := Fw W g) (om_150 hg_o hU_o  h_o) (fun v2 s1_l h741_o => ?_)
  exact gQ_ret h741_o

theorem om_164 {W : Nat → Nat → Bool} {g s : gS} {a0 : Nat} {a1 : Int} (hg_o : RF g) (hU_o : ∀ a k, mss a k = true → W a k = true) (ea0_o : a0 = 217) (h_o : Fw W g s) : gQ (f_164 a0 a1 s) (fun r => Fw W g r.2.2.2) := by
  subst ea0_o
  unfold f_164
  refine gQ_v1 (A := Fw W g) (om_150 hg_o hU_o  h_o) (fun v2 s1_l h742_o => ?_)
  exact gQ_ret h742_o

theorem om_165 {W : Nat → Nat → Bool} {g s : gS} {a0 : Nat} {a1 : Int} (hg_o : RF g) (hU_o : ∀ a k, mss a k = true → W a k = true) (ea0_o : a0 = 217) (h_o : Fw W g s) : gQ (f_165 a0 a1 s) (fun r => Fw W g r.2.2.2) := by
  subst ea0_o
  unfold f_165
  refine gQ_v1 (A := Fw W g) (om_156 hg_o hU_o rfl h_o) (fun v2 s1_l h743_o => ?_)
  refine gQ_ite ?_ ?_
  · exact gQ_ret h743_o
  · exact gQ_ret h743_o

theorem om_197 {W : Nat → Nat → Bool} {g s : gS} {a0 : Nat} {a1 : Int} {a2 : Int} {a3 : Int} {a4 : Int} {a5 : Int} {a6 : Int} {a7 : Int} (hg_o : RF g) (hU_o : ∀ a k, mss a k = true → W a k = true) (ea0_o : a0 = 217) (h_o : Fw W g s) : gQ (f_197 a0 a1 a2 a3 a4 a5 a6 a7 s) (fun r => Fw W g r.2.2.2) := by
  subst ea0_o
  unfold f_197
  dsimp only
  refine gQ_ite ?_ ?_
  · exact gQ_ret h_o
  · refine gQ_ite ?_ ?_
    · unfold fb_197_80
      dsimp only
      refine gQ_bool ?_
      refine gQ_ite ?_ ?_
      · unfold fb_197_100
        dsimp only
        refine gQ_bool ?_
        refine gQ_v1 (A := Fw W g) (om_184 hg_o hU_o rfl rfl (Fw_w (Fw_w (Fw_w (Fw_w (Fw_w (Fw_w (Fw_w (Fw_w (Fw_w (Fw_w (Fw_w (Fw_w (Fw_w (Fw_w (Fw_w h_o (fr_r h_o rfl (rr_217_14 hg_o)) (hU_o 223 _ rfl)) (fr_r (Fw_w h_o (fr_r h_o rfl (rr_217_14 hg_o)) (hU_o 223 _ rfl)) rfl (rr_217_14 hg_o)) (hU_o 223 _ rfl)) (fr_r (Fw_w (Fw_w h_o (fr_r h_o rfl (rr_217_14 hg_o)) (hU_o 223 _ rfl)) (fr_r (Fw_w h_o (fr_r h_o rfl (rr_217_14 hg_o)) (hU_o 223 _ rfl)) rfl (rr_217_14 hg_o)) (hU_o 223 _ rfl)) rfl (rr_217_14 hg_o)) (hU_o 223 _ rfl)) (fr_r (Fw_w (Fw_w (Fw_w h_o (fr_r h_o rfl (rr_217_14 hg_o)) (hU_o 223 _ rfl)) (fr_r (Fw_w h_o (fr_r h_o rfl (rr_217_14 hg_o)) (hU_o 223 _ rfl)) rfl (rr_217_14 hg_o)) (hU_o 223 _ rfl)) (fr_r (Fw_w (Fw_w h_o (fr_r h_o rfl (rr_217_14 hg_o)) (hU_o 223 _ rfl)) (fr_r (Fw_w h_o (fr_r h_o rfl (rr_217_14 hg_o)) (hU_o 223 _ rfl)) rfl (rr_217_14 hg_o)) (hU_o 223 _ rfl)) rfl (rr_217_14 hg_o)) (hU_o 223 _ rfl)) rfl (rr_217_14 hg_o)) (hU_o 223 _ rfl)) (fr_r (Fw_w (Fw_w (Fw_w (Fw_w h_o (fr_r h_o rfl (rr_217_14 hg_o)) (hU_o 223 _ rfl)) (fr_r (Fw_w h_o (fr_r h_o rfl (rr_217_14 hg_o)) (hU_o 223 _ rfl)) rfl (rr_217_14 hg_o)) (hU_o 223 _ rfl)) (fr_r (Fw_w (Fw_w h_o (fr_r h_o rfl (rr_217_14 hg_o)) (hU_o 223 _ rfl)) (fr_r (Fw_w h_o (fr_r h_o rfl (rr_217_14 hg_o)) (hU_o 223 _ rfl)) rfl (rr_217_14 hg_o)) (hU_o 223 _ rfl)) rfl (rr_217_14 hg_o)) (hU_o 223 _ rfl)) (fr_r (Fw_w (Fw_w (Fw_w h_o (fr_r h_o rfl (rr_217_14 hg_o)) (hU_o 223 _ rfl)) (fr_r (Fw_w h_o (fr_r h_o rfl (rr_217_14 hg_o)) (hU_o 223 _ rfl)) rfl (rr_217_14 hg_o)) (hU_o 223 _ rfl)) (fr_r (Fw_w (Fw_w h_o (fr_r h_o rfl (rr_217_14 hg_o)) (hU_o 223 _ rfl)) (fr_r (Fw_w h_o (fr_r h_o rfl (rr_217_14 hg_o)) (hU_o 223 _ rfl)) rfl (rr_217_14 hg_o)) (hU_o 223 _ rfl)) rfl (rr_217_14 hg_o)) (hU_o 223 _ rfl)) rfl (rr_217_14 hg_o)) (hU_o 223 _ rfl)) rfl (rr_217_14 hg_o)) (hU_o 223 _ rfl)) (fr_r (Fw_w (Fw_w (Fw_w (Fw_w (Fw_w h_o (fr_r h_o rfl (rr_217_14 hg_o)) (hU_o 223 _ rfl)) (fr_r (Fw_w h_o (fr_r h_o rfl (rr_217_14 hg_o)) (hU_o 223 _ rfl)) rfl (rr_217_14 hg_o)) (hU_o 223 _ rfl)) (fr_r (Fw_w (Fw_w h_o (fr_r h_o rfl (rr_217_14 hg_o)) (hU_o 223 _ rfl)) (fr_r (Fw_w h_o (fr_r h_o rfl (rr_217_14 hg_o)) (hU_o 223 _ rfl)) rfl (rr_217_14 hg_o)) (hU_o 223 _ rfl)) rfl (rr_217_14 hg_o)) (hU_o 223 _ rfl)) (fr_r (Fw_w (Fw_w (Fw_w h_o (fr_r h_o rfl (rr_217_14 hg_o)) (hU_o 223 _ rfl)) (fr_r (Fw_w h_o (fr_r h_o rfl (rr_217_14 hg_o)) (hU_o 223 _ rfl)) rfl (rr_217_14 hg_o)) (hU_o 223 _ rfl)) (fr_r (Fw_w (Fw_w h_o (fr_r h_o rfl (rr_217_14 hg_o)) (hU_o 223 _ rfl)) (fr_r (Fw_w h_o (fr_r h_o rfl (rr_217_14 hg_o)) (hU_o 223 _ rfl)) rfl (rr_217_14 hg_o)) (hU_o 223 _ rfl)) rfl (rr_217_14 hg_o)) (hU_o 223 _ rfl)) rfl (rr_217_14 hg_o)) (hU_o 223 _ rfl)) (fr_r (Fw_w (Fw_w (Fw_w (Fw_w h_o (fr_r h_o rfl (rr_217_14 hg_o)) (hU_o 223 _ rfl)) (fr_r (Fw_w h_o (fr_r h_o rfl (rr_217_14 hg_o)) (hU_o 223 _ rfl)) rfl (rr_217_14 hg_o)) (hU_o 223 _ rfl)) (fr_r (Fw_w (Fw_w h_o (fr_r h_o rfl (rr_217_14 hg_o)) (hU_o 223 _ rfl)) (fr_r (Fw_w h_o (fr_r h_o rfl (rr_217_14 hg_o)) (hU_o 223 _ rfl)) rfl (rr_217_14 hg_o)) (hU_o 223 _ rfl)) rfl (rr_217_14 hg_o)) (hU_o 223 _ rfl)) (fr_r (Fw_w (Fw_w (Fw_w h_o (fr_r h_o rfl (rr_217_14 hg_o)) (hU_o 223 _ rfl)) (fr_r (Fw_w h_o (fr_r h_o rfl (rr_217_14 hg_o)) (hU_o 223 _ rfl)) rfl (rr_217_14 hg_o)) (hU_o 223 _ rfl)) (fr_r (Fw_w (Fw_w h_o (fr_r h_o rfl (rr_217_14 hg_o)) (hU_o 223 _ rfl)) (fr_r (Fw_w h_o (fr_r h_o rfl (rr_217_14 hg_o)) (hU_o 223 _ rfl)) rfl (rr_217_14 hg_o)) (hU_o 223 _ rfl)) rfl (rr_217_14 hg_o)) (hU_o 223 _ rfl)) rfl (rr_217_14 hg_o)) (hU_o 223 _ rfl)) rfl (rr_217_14 hg_o)) (hU_o 223 _ rfl)) rfl (rr_217_14 hg_o)) (hU_o 223 _ rfl)) (fr_r (Fw_w (Fw_w (Fw_w (Fw_w (Fw_w (Fw_w h_o (fr_r h_o rfl (rr_217_14 hg_o)) (hU_o 223 _ rfl)) (fr_r (Fw_w h_o (fr_r h_o rfl (rr_217_14 hg_o)) (hU_o 223 _ rfl)) rfl (rr_217_14 hg_o)) (hU_o 223 _ rfl)) (fr_r (Fw_w (Fw_w h_o (fr_r h_o rfl (rr_217_14 hg_o)) (hU_o 223 _ rfl)) (fr_r (Fw_w h_o (fr_r h_o rfl (rr_217_14 hg_o)) (hU_o 223 _ rfl)) rfl (rr_217_14 hg_o)) (hU_o 223 _ rfl)) rfl (rr_217_14 hg_o)) (hU_o 223 _ rfl)) (fr_r (Fw_w (Fw_w (Fw_w h_o (fr_r h_o rfl (rr_217_14 hg_o)) (hU_o 223 _ rfl)) (fr_r (Fw_w h_o (fr_r h_o rfl (rr_217_14 hg_o)) (hU_o 223 _ rfl)) rfl (rr_217_14 hg_o)) (hU_o 223 _ rfl)) (fr_r (Fw_w (Fw_w h_o (fr_r h_o rfl (rr_217_14 hg_o)) (hU_o 223 _ rfl)) (fr_r (Fw_w h_o (fr_r h_o rfl (rr_217_14 hg_o)) (hU_o 223 _ rfl)) rfl (rr_217_14 hg_o)) (hU_o 223 _ rfl)) rfl (rr_217_14 hg_o)) (hU_o 223 _ rfl)) rfl (rr_217_14 hg_o)) (hU_o 223 _ rfl)) (fr_r (Fw_w (Fw_w (Fw_w (Fw_w h_o (fr_r h_o rfl (rr_217_14 hg_o)) (hU_o 223 _ rfl)) (fr_r (Fw_w h_o (fr_r h_o rfl (rr_217_14 hg_o)) (hU_o 223 _ rfl)) rfl (rr_217_14 hg_o)) (hU_o 223 _ rfl)) (fr_r (Fw_w (Fw_w h_o (fr_r h_o rfl (rr_217_14 hg_o)) (hU_o 223 _ rfl)) (fr_r (Fw_w h_o (fr_r h_o rfl (rr_217_14 hg_o)) (hU_o 223 _ rfl)) rfl (rr_217_14 hg_o)) (hU_o 223 _ rfl)) rfl (rr_217_14 hg_o)) (hU_o 223 _ rfl)) (fr_r (Fw_w (Fw_w (Fw_w h_o (fr_r h_o rfl (rr_217_14 hg_o)) (hU_o 223 _ rfl)) (fr_r (Fw_w h_o (fr_r h_o rfl (rr_217_14 hg_o)) (hU_o 223 _ rfl)) rfl (rr_217_14 hg_o)) (hU_o 223 _ rfl)) (fr_r (Fw_w (Fw_w h_o (fr_r h_o rfl (rr_217_14 hg_o)) (hU_o 223 _ rfl)) (fr_r (Fw_w h_o (fr_r h_o rfl (rr_217_14 hg_o)) (hU_o 223 _ rfl)) rfl (rr_217_14 hg_o)) (hU_o 223 _ rfl)) rfl (rr_217_14 hg_o)) (hU_o 223 _ rfl)) rfl (rr_217_14 hg_o)) (hU_o 223 _ rfl)) rfl (rr_217_14 hg_o)) (hU_o 223 _ rfl)) (fr_r (Fw_w (Fw_w (Fw_w (Fw_w (Fw_w h_o (fr_r h_o rfl (rr_217_14 hg_o)) (hU_o 223 _ rfl)) (fr_r (Fw_w h_o (fr_r h_o rfl (rr_217_14 hg_o)) (hU_o 223 _ rfl)) rfl (rr_217_14 hg_o)) (hU_o 223 _ rfl)) (fr_r (Fw_w (Fw_w h_o (fr_r h_o rfl (rr_217_14 hg_o)) (hU_o 223 _ rfl)) (fr_r (Fw_w h_o (fr_r h_o rfl (rr_217_14 hg_o)) (hU_o 223 _ rfl)) rfl (rr_217_14 hg_o)) (hU_o 223 _ rfl)) rfl (rr_217_14 hg_o)) (hU_o 223 _ rfl)) (fr_r (Fw_w (Fw_w (Fw_w h_o (fr_r h_o rfl (rr_217_14 hg_o)) (hU_o 223 _ rfl)) (fr_r (Fw_w h_o (fr_r h_o rfl (rr_217_14 hg_o)) (hU_o 223 _ rfl)) rfl (rr_217_14 hg_o)) (hU_o 223 _ rfl)) (fr_r (Fw_w (Fw_w h_o (fr_r h_o rfl (rr_217_14 hg_o)) (hU_o 223 _ rfl)) (fr_r (Fw_w h_o (fr_r h_o rfl (rr_217_14 hg_o)) (hU_o 223 _ rfl)) rfl (rr_217_14 hg_o)) (hU_o 223 _ rfl)) rfl (rr_217_14 hg_o)) (hU_o 223 _ rfl)) rfl (rr_217_14 hg_o)) (hU_o 223 _ rfl)) (fr_r (Fw_w (Fw_w (Fw_w (Fw_w h_o (fr_r h_o rfl (rr_217_14 hg_o)) (hU_o 223 _ rfl)) (fr_r (Fw_w h_o (fr_r h_o rfl (rr_217_14 hg_o)) (hU_o 223 _ rfl)) rfl (rr_217_14 hg_o)) (hU_o 223 _ rfl)) (fr_r (Fw_w (Fw_w h_o (fr_r h_o rfl (rr_217_14 hg_o)) (hU_o 223 _ rfl)) (fr_r (Fw_w h_o (fr_r h_o rfl (rr_217_14 hg_o)) (hU_o 223 _ rfl)) rfl (rr_217_14 hg_o)) (hU_o 223 _ rfl)) rfl (rr_217_14 hg_o)) (hU_o 223 _ rfl)) (fr_r (Fw_w (Fw_w (Fw_w h_o (fr_r h_o rfl (rr_217_14 hg_o)) (hU_o 223 _ rfl)) (fr_r (Fw_w h_o (fr_r h_o rfl (rr_217_14 hg_o)) (hU_o 223 _ rfl)) rfl (rr_217_14 hg_o)) (hU_o 223 _ rfl)) (fr_r (Fw_w (Fw_w h_o (fr_r h_o rfl (rr_217_14 hg_o)) (hU_o 223 _ rfl)) (fr_r (Fw_w h_o (fr_r h_o rfl (rr_217_14 hg_o)) (hU_o 223 _ rfl)) rfl (rr_217_14 hg_o)) (hU_o 223 _ rfl)) rfl (rr_217_14 hg_o)) (hU_o 223 _ rfl)) rfl (rr_217_14 hg_o)) (hU_o 223 _ rfl)) rfl (rr_217_14 hg_o)) (hU_o 223 _ rfl)) rfl (rr_217_14 hg_o)) (hU_o 223 _ rfl)) rfl (rr_217_14 hg_o)) (hU_o 223 _ rfl)) rfl (hU_o 217 _ rfl)) rfl (hU_o 217 _ rfl)) rfl (hU_o 217 _ rfl)) rfl (hU_o 217 _ rfl)) rfl (hU_o 217 _ rfl)) rfl (hU_o 217 _ rfl)) rfl (hU_o 217 _ rfl)) rfl (hU_o 217 _ rfl))) (fun v17 s16 h744_o => ?_)
        exact gQ_ret (Fw_w h744_o rfl (hU_o 217 _ rfl))
      · unfold fb_197_100
        dsimp only
        refine gQ_bool ?_
        refine gQ_v1 (A := Fw W g) (om_184 hg_o hU_o rfl rfl (Fw_w (Fw_w (Fw_w (Fw_w (Fw_w (Fw_w (Fw_w (Fw_w (Fw_w (Fw_w (Fw_w (Fw_w (Fw_w (Fw_w (Fw_w h_o (fr_r h_o rfl (rr_217_14 hg_o)) (hU_o 223 _ rfl)) (fr_r (Fw_w h_o (fr_r h_o rfl (rr_217_14 hg_o)) (hU_o 223 _ rfl)) rfl (rr_217_14 hg_o)) (hU_o 223 _ rfl)) (fr_r (Fw_w (Fw_w h_o (fr_r h_o rfl (rr_217_14 hg_o)) (hU_o 223 _ rfl)) (fr_r (Fw_w h_o (fr_r h_o rfl (rr_217_14 hg_o)) (hU_o 223 _ rfl)) rfl (rr_217_14 hg_o)) (hU_o 223 _ rfl)) rfl (rr_217_14 hg_o)) (hU_o 223 _ rfl)) (fr_r (Fw_w (Fw_w (Fw_w h_o (fr_r h_o rfl (rr_217_14 hg_o)) (hU_o 223 _ rfl)) (fr_r (Fw_w h_o (fr_r h_o rfl (rr_217_14 hg_o)) (hU_o 223 _ rfl)) rfl (rr_217_14 hg_o)) (hU_o 223 _ rfl)) (fr_r (Fw_w (Fw_w h_o (fr_r h_o rfl (rr_217_14 hg_o)) (hU_o 223 _ rfl)) (fr_r (Fw_w h_o (fr_r h_o rfl (rr_217_14 hg_o)) (hU_o 223 _ rfl)) rfl (rr_217_14 hg_o)) (hU_o 223 _ rfl)) rfl (rr_217_14 hg_o)) (hU_o 223 _ rfl)) rfl (rr_217_14 hg_o)) (hU_o 223 _ rfl)) (fr_r (Fw_w (Fw_w (Fw_w (Fw_w h_o (fr_r h_o rfl (rr_217_14 hg_o)) (hU_o 223 _ rfl)) (fr_r (Fw_w h_o (fr_r h_o rfl (rr_217_14 hg_o)) (hU_o 223 _ rfl)) rfl (rr_217_14 hg_o)) (hU_o 223 _ rfl)) (fr_r (Fw_w (Fw_w h_o (fr_r h_o rfl (rr_217_14 hg_o)) (hU_o 223 _ rfl)) (fr_r (Fw_w h_o (fr_r h_o rfl (rr_217_14 hg_o)) (hU_o 223 _ rfl)) rfl (rr_217_14 hg_o)) (hU_o 223 _ rfl)) rfl (rr_217_14 hg_o)) (hU_o 223 _ rfl)) (fr_r (Fw_w (Fw_w (Fw_w h_o (fr_r h_o rfl (rr_217_14 hg_o)) (hU_o 223 _ rfl)) (fr_r (Fw_w h_o (fr_r h_o rfl (rr_217_14 hg_o)) (hU_o 223 _ rfl)) rfl (rr_217_14 hg_o)) (hU_o 223 _ rfl)) (fr_r (Fw_w (Fw_w h_o (fr_r h_o rfl (rr_217_14 hg_o)) (hU_o 223 _ rfl)) (fr_r (Fw_w h_o (fr_r h_o rfl (rr_217_14 hg_o)) (hU_o 223 _ rfl)) rfl (rr_217_14 hg_o)) (hU_o 223 _ rfl)) rfl (rr_217_14 hg_o)) (hU_o 223 _ rfl)) rfl (rr_217_14 hg_o)) (hU_o 223 _ rfl)) rfl (rr_217_14 hg_o)) (hU_o 223 _ rfl)) (fr_r (Fw_w (Fw_w (Fw_w (Fw_w (Fw_w h_o (fr_r h_o rfl (rr_217_14 hg_o)) (hU_o 223 _ rfl)) (fr_r (Fw_w h_o (fr_r h_o rfl (rr_217_14 hg_o)) (hU_o 223 _ rfl)) rfl (rr_217_14 hg_o)) (hU_o 223 _ rfl)) (fr_r (Fw_w (Fw_w h_o (fr_r h_o rfl (rr_217_14 hg_o)) (hU_o 223 _ rfl)) (fr_r (Fw_w h_o (fr_r h_o rfl (rr_217_14 hg_o)) (hU_o 223 _ rfl)) rfl (rr_217_14 hg_o)) (hU_o 223 _ rfl)) rfl (rr_217_14 hg_o)) (hU_o 223 _ rfl)) (fr_r (Fw_w (Fw_w (Fw_w h_o (fr_r h_o rfl (rr_217_14 hg_o)) (hU_o 223 _ rfl)) (fr_r (Fw_w h_o (fr_r h_o rfl (rr_217_14 hg_o)) (hU_o 223 _ rfl)) rfl (rr_217_14 hg_o)) (hU_o 223 _ rfl)) (fr_r (Fw_w (Fw_w h_o (fr_r h_o rfl (rr_217_14 hg_o)) (hU_o 223 _ rfl)) (fr_r (Fw_w h_o (fr_r h_o rfl (rr_217_14 hg_o)) (hU_o 223 _ rfl)) rfl (rr_217_14 hg_o)) (hU_o 223 _ rfl)) rfl (rr_217_14 hg_o)) (hU_o 223 _ rfl)) rfl (rr_217_14 hg_o)) (hU_o 223 _ rfl)) (fr_r (Fw_w (Fw_w (Fw_w (Fw_w h_o (fr_r h_o rfl (rr_217_14 hg_o)) (hU_o 223 _ rfl)) (fr_r (Fw_w h_o (fr_r h_o rfl (rr_217_14 hg_o)) (hU_o 223 _ rfl)) rfl (rr_217_14 hg_o)) (hU_o 223 _ rfl)) (fr_r (Fw_w (Fw_w h_o (fr_r h_o rfl (rr_217_14 hg_o)) (hU_o 223 _ rfl)) (fr_r (Fw_w h_o (fr_r h_o rfl (rr_217_14 hg_o)) (hU_o 223 _ rfl)) rfl (rr_217_14 hg_o)) (hU_o 223 _ rfl)) rfl (rr_217_14 hg_o)) (hU_o 223 _ rfl)) (fr_r (Fw_w (Fw_w (Fw_w h_o (fr_r h_o rfl (rr_217_14 hg_o)) (hU_o 223 _ rfl)) (fr_r (Fw_w h_o (fr_r h_o rfl (rr_217_14 hg_o)) (hU_o 223 _ rfl)) rfl (rr_217_14 hg_o)) (hU_o 223 _ rfl)) (fr_r (Fw_w (Fw_w h_o (fr_r h_o rfl (rr_217_14 hg_o)) (hU_o 223 _ rfl)) (fr_r (Fw_w h_o (fr_r h_o rfl (rr_217_14 hg_o)) (hU_o 223 _ rfl)) rfl (rr_217_14 hg_o)) (hU_o 223 _ rfl)) rfl (rr_217_14 hg_o)) (hU_o 223 _ rfl)) rfl (rr_217_14 hg_o)) (hU_o 223 _ rfl)) rfl (rr_217_14 hg_o)) (hU_o 223 _ rfl)) rfl (rr_217_14 hg_o)) (hU_o 223 _ rfl)) (fr_r (Fw_w (Fw_w (Fw_w (Fw_w (Fw_w (Fw_w h_o (fr_r h_o rfl (rr_217_14 hg_o)) (hU_o 223 _ rfl)) (fr_r (Fw_w h_o (fr_r h_o rfl (rr_217_14 hg_o)) (hU_o 223 _ rfl)) rfl (rr_217_14 hg_o)) (hU_o 223 _ rfl)) (fr_r (Fw_w (Fw_w h_o (fr_r h_o rfl (rr_217_14 hg_o)) (hU_o 223 _ rfl)) (fr_r (Fw_w h_o (fr_r h_o rfl (rr_217_14 hg_o)) (hU_o 223 _ rfl)) rfl (rr_217_14 hg_o)) (hU_o 223 _ rfl)) rfl (rr_217_14 hg_o)) (hU_o 223 _ rfl)) (fr_r (Fw_w (Fw_w (Fw_w h_o (fr_r h_o rfl (rr_217_14 hg_o)) (hU_o 223 _ rfl)) (fr_r (Fw_w h_o (fr_r h_o rfl (rr_217_14 hg_o)) (hU_o 223 _ rfl)) rfl (rr_217_14 hg_o)) (hU_o 223 _ rfl)) (fr_r (Fw_w (Fw_w h_o (fr_r h_o rfl (rr_217_14 hg_o)) (hU_o 223 _ rfl)) (fr_r (Fw_w h_o (fr_r h_o rfl (rr_217_14 hg_o)) (hU_o 223 _ rfl)) rfl (rr_217_14 hg_o)) (hU_o 223 _ rfl)) rfl (rr_217_14 hg_o)) (hU_o 223 _ rfl)) rfl (rr_217_14 hg_o)) (hU_o 223 _ rfl)) (fr_r (Fw_w (Fw_w (Fw_w (Fw_w h_o (fr_r h_o rfl (rr_217_14 hg_o)) (hU_o 223 _ rfl)) (fr_r (Fw_w h_o (fr_r h_o rfl (rr_217_14 hg_o)) (hU_o 223 _ rfl)) rfl (rr_217_14 hg_o)) (hU_o 223 _ rfl)) (fr_r (Fw_w (Fw_w h_o (fr_r h_o rfl (rr_217_14 hg_o)) (hU_o 223 _ rfl)) (fr_r (Fw_w h_o (fr_r h_o rfl (rr_217_14 hg_o)) (hU_o 223 _ rfl)) rfl (rr_217_14 hg_o)) (hU_o 223 _ rfl)) rfl (rr_217_14 hg_o)) (hU_o 223 _ rfl)) (fr_r (Fw_w (Fw_w (Fw_w h_o (fr_r h_o rfl (rr_217_14 hg_o)) (hU_o 223 _ rfl)) (fr_r (Fw_w h_o (fr_r h_o rfl (rr_217_14 hg_o)) (hU_o 223 _ rfl)) rfl (rr_217_14 hg_o)) (hU_o 223 _ rfl)) (fr_r (Fw_w (Fw_w h_o (fr_r h_o rfl (rr_217_14 hg_o)) (hU_o 223 _ rfl)) (fr_r (Fw_w h_o (fr_r h_o rfl (rr_217_14 hg_o)) (hU_o 223 _ rfl)) rfl (rr_217_14 hg_o)) (hU_o 223 _ rfl)) rfl (rr_217_14 hg_o)) (hU_o 223 _ rfl)) rfl (rr_217_14 hg_o)) (hU_o 223 _ rfl)) rfl (rr_217_14 hg_o)) (hU_o 223 _ rfl)) (fr_r (Fw_w (Fw_w (Fw_w (Fw_w (Fw_w h_o (fr_r h_o rfl (rr_217_14 hg_o)) (hU_o 223 _ rfl)) (fr_r (Fw_w h_o (fr_r h_o rfl (rr_217_14 hg_o)) (hU_o 223 _ rfl)) rfl (rr_217_14 hg_o)) (hU_o 223 _ rfl)) (fr_r (Fw_w (Fw_w h_o (fr_r h_o rfl (rr_217_14 hg_o)) (hU_o 223 _ rfl)) (fr_r (Fw_w h_o (fr_r h_o rfl (rr_217_14 hg_o)) (hU_o 223 _ rfl)) rfl (rr_217_14 hg_o)) (hU_o 223 _ rfl)) rfl (rr_217_14 hg_o)) (hU_o 223 _ rfl)) (fr_r (Fw_w (Fw_w (Fw_w h_o (fr_r h_o rfl (rr_217_14 hg_o)) (hU_o 223 _ rfl)) (fr_r (Fw_w h_o (fr_r h_o rfl (rr_217_14 hg_o)) (hU_o 223 _ rfl)) rfl (rr_217_14 hg_o)) (hU_o 223 _ rfl)) (fr_r (Fw_w (Fw_w h_o (fr_r h_o rfl (rr_217_14 hg_o)) (hU_o 223 _ rfl)) (fr_r (Fw_w h_o (fr_r h_o rfl (rr_217_14 hg_o)) (hU_o 223 _ rfl)) rfl (rr_217_14 hg_o)) (hU_o 223 _ rfl)) rfl (rr_217_14 hg_o)) (hU_o 223 _ rfl)) rfl (rr_217_14 hg_o)) (hU_o 223 _ rfl)) (fr_r (Fw_w (Fw_w (Fw_w (Fw_w h_o (fr_r h_o rfl (rr_217_14 hg_o)) (hU_o 223 _ rfl)) (fr_r (Fw_w h_o (fr_r h_o rfl (rr_217_14 hg_o)) (hU_o 223 _ rfl)) rfl (rr_217_14 hg_o)) (hU_o 223 _ rfl)) (fr_r (Fw_w (Fw_w h_o (fr_r h_o rfl (rr_217_14 hg_o)) (hU_o 223 _ rfl)) (fr_r (Fw_w h_o (fr_r h_o rfl (rr_217_14 hg_o)) (hU_o 223 _ rfl)) rfl (rr_217_14 hg_o)) (hU_o 223 _ rfl)) rfl (rr_217_14 hg_o)) (hU_o 223 _ rfl)) (fr_r (Fw_w (Fw_w (Fw_w h_o (fr_r h_o rfl (rr_217_14 hg_o)) (hU_o 223 _ rfl)) (fr_r (Fw_w h_o (fr_r h_o rfl (rr_217_14 hg_o)) (hU_o 223 _ rfl)) rfl (rr_217_14 hg_o)) (hU_o 223 _ rfl)) (fr_r (Fw_w (Fw_w h_o (fr_r h_o rfl (rr_217_14 hg_o)) (hU_o 223 _ rfl)) (fr_r (Fw_w h_o (fr_r h_o rfl (rr_217_14 hg_o)) (hU_o 223 _ rfl)) rfl (rr_217_14 hg_o)) (hU_o 223 _ rfl)) rfl (rr_217_14 hg_o)) (hU_o 223 _ rfl)) rfl (rr_217_14 hg_o)) (hU_o 223 _ rfl)) rfl (rr_217_14 hg_o)) (hU_o 223 _ rfl)) rfl (rr_217_14 hg_o)) (hU_o 223 _ rfl)) rfl (rr_217_14 hg_o)) (hU_o 223 _ rfl)) rfl (hU_o 217 _ rfl)) rfl (hU_o 217 _ rfl)) rfl (hU_o 217 _ rfl)) rfl (hU_o 217 _ rfl)) rfl (hU_o 217 _ rfl)) rfl (hU_o 217 _ rfl)) rfl (hU_o 217 _ rfl)) rfl (hU_o 217 _ rfl))) (fun v17 s16 h745_o => ?_)
        exact gQ_ret (Fw_w h745_o rfl (hU_o 217 _ rfl))
    · unfold fb_197_80
      dsimp only
      refine gQ_bool ?_
      refine gQ_ite ?_ ?_
      · unfold fb_197_100
        dsimp only
        refine gQ_bool ?_
        refine gQ_v1 (A := Fw W g) (om_184 hg_o hU_o rfl rfl (Fw_w (Fw_w (Fw_w (Fw_w (Fw_w (Fw_w (Fw_w (Fw_w (Fw_w (Fw_w (Fw_w (Fw_w (Fw_w (Fw_w (Fw_w h_o (fr_r h_o rfl (rr_217_14 hg_o)) (hU_o 223 _ rfl)) (fr_r (Fw_w h_o (fr_r h_o rfl (rr_217_14 hg_o)) (hU_o 223 _ rfl)) rfl (rr_217_14 hg_o)) (hU_o 223 _ rfl)) (fr_r (Fw_w (Fw_w h_o (fr_r h_o rfl (rr_217_14 hg_o)) (hU_o 223 _ rfl)) (fr_r (Fw_w h_o (fr_r h_o rfl (rr_217_14 hg_o)) (hU_o 223 _ rfl)) rfl (rr_217_14 hg_o)) (hU_o 223 _ rfl)) rfl (rr_217_14 hg_o)) (hU_o 223 _ rfl)) (fr_r (Fw_w (Fw_w (Fw_w h_o (fr_r h_o rfl (rr_217_14 hg_o)) (hU_o 223 _ rfl)) (fr_r (Fw_w h_o (fr_r h_o rfl (rr_217_14 hg_o)) (hU_o 223 _ rfl)) rfl (rr_217_14 hg_o)) (hU_o 223 _ rfl)) (fr_r (Fw_w (Fw_w h_o (fr_r h_o rfl (rr_217_14 hg_o)) (hU_o 223 _ rfl)) (fr_r (Fw_w h_o (fr_r h_o rfl (rr_217_14 hg_o)) (hU_o 223 _ rfl)) rfl (rr_217_14 hg_o)) (hU_o 223 _ rfl)) rfl (rr_217_14 hg_o)) (hU_o 223 _ rfl)) rfl (rr_217_14 hg_o)) (hU_o 223 _ rfl)) (fr_r (Fw_w (Fw_w (Fw_w (Fw_w h_o (fr_r h_o rfl (rr_217_14 hg_o)) (hU_o 223 _ rfl)) (fr_r (Fw_w h_o (fr_r h_o rfl (rr_217_14 hg_o)) (hU_o 223 _ rfl)) rfl (rr_217_14 hg_o)) (hU_o 223 _ rfl)) (fr_r (Fw_w (Fw_w h_o (fr_r h_o rfl (rr_217_14 hg_o)) (hU_o 223 _ rfl)) (fr_r (Fw_w h_o (fr_r h_o rfl (rr_217_14 hg_o)) (hU_o 223 _ rfl)) rfl (rr_217_14 hg_o)) (hU_o 223 _ rfl)) rfl (rr_217_14 hg_o)) (hU_o 223 _ rfl)) (fr_r (Fw_w (Fw_w (Fw_w h_o (fr_r h_o rfl (rr_217_14 hg_o)) (hU_o 223 _ rfl)) (fr_r (Fw_w h_o (fr_r h_o rfl (rr_217_14 hg_o)) (hU_o 223 _ rfl)) rfl (rr_217_14 hg_o)) (hU_o 223 _ rfl)) (fr_r (Fw_w (Fw_w h_o (fr_r h_o rfl (rr_217_14 hg_o)) (hU_o 223 _ rfl)) (fr_r (Fw_w h_o (fr_r h_o rfl (rr_217_14 hg_o)) (hU_o 223 _ rfl)) rfl (rr_217_14 hg_o)) (hU_o 223 _ rfl)) rfl (rr_217_14 hg_o)) (hU_o 223 _ rfl)) rfl (rr_217_14 hg_o)) (hU_o 223 _ rfl)) rfl (rr_217_14 hg_o)) (hU_o 223 _ rfl)) (fr_r (Fw_w (Fw_w (Fw_w (Fw_w (Fw_w h_o (fr_r h_o rfl (rr_217_14 hg_o)) (hU_o 223 _ rfl)) (fr_r (Fw_w h_o (fr_r h_o rfl (rr_217_14 hg_o)) (hU_o 223 _ rfl)) rfl (rr_217_14 hg_o)) (hU_o 223 _ rfl)) (fr_r (Fw_w (Fw_w h_o (fr_r h_o rfl (rr_217_14 hg_o)) (hU_o 223 _ rfl)) (fr_r (Fw_w h_o (fr_r h_o rfl (rr_217_14 hg_o)) (hU_o 223 _ rfl)) rfl (rr_217_14 hg_o)) (hU_o 223 _ rfl)) rfl (rr_217_14 hg_o)) (hU_o 223 _ rfl)) (fr_r (Fw_w (Fw_w (Fw_w h_o (fr_r h_o rfl (rr_217_14 hg_o)) (hU_o 223 _ rfl)) (fr_r (Fw_w h_o (fr_r h_o rfl (rr_217_14 hg_o)) (hU_o 223 _ rfl)) rfl (rr_217_14 hg_o)) (hU_o 223 _ rfl)) (fr_r (Fw_w (Fw_w h_o (fr_r h_o rfl (rr_217_14 hg_o)) (hU_o 223 _ rfl)) (fr_r (Fw_w h_o (fr_r h_o rfl (rr_217_14 hg_o)) (hU_o 223 _ rfl)) rfl (rr_217_14 hg_o)) (hU_o 223 _ rfl)) rfl (rr_217_14 hg_o)) (hU_o 223 _ rfl)) rfl (rr_217_14 hg_o)) (hU_o 223 _ rfl)) (fr_r (Fw_w (Fw_w (Fw_w (Fw_w h_o (fr_r h_o rfl (rr_217_14 hg_o)) (hU_o 223 _ rfl)) (fr_r (Fw_w h_o (fr_r h_o rfl (rr_217_14 hg_o)) (hU_o 223 _ rfl)) rfl (rr_217_14 hg_o)) (hU_o 223 _ rfl)) (fr_r (Fw_w (Fw_w h_o (fr_r h_o rfl (rr_217_14 hg_o)) (hU_o 223 _ rfl)) (fr_r (Fw_w h_o (fr_r h_o rfl (rr_217_14 hg_o)) (hU_o 223 _ rfl)) rfl (rr_217_14 hg_o)) (hU_o 223 _ rfl)) rfl (rr_217_14 hg_o)) (hU_o 223 _ rfl)) (fr_r (Fw_w (Fw_w (Fw_w h_o (fr_r h_o rfl (rr_217_14 hg_o)) (hU_o 223 _ rfl)) (fr_r (Fw_w h_o (fr_r h_o rfl (rr_217_14 hg_o)) (hU_o 223 _ rfl)) rfl (rr_217_14 hg_o)) (hU_o 223 _ rfl)) (fr_r (Fw_w (Fw_w h_o (fr_r h_o rfl (rr_217_14 hg_o)) (hU_o 223 _ rfl)) (fr_r (Fw_w h_o (fr_r h_o rfl (rr_217_14 hg_o)) (hU_o 223 _ rfl)) rfl (rr_217_14 hg_o)) (hU_o 223 _ rfl)) rfl (rr_217_14 hg_o)) (hU_o 223 _ rfl)) rfl (rr_217_14 hg_o)) (hU_o 223 _ rfl)) rfl (rr_217_14 hg_o)) (hU_o 223 _ rfl)) rfl (rr_217_14 hg_o)) (hU_o 223 _ rfl)) (fr_r (Fw_w (Fw_w (Fw_w (Fw_w (Fw_w (Fw_w h_o (fr_r h_o rfl (rr_217_14 hg_o)) (hU_o 223 _ rfl)) (fr_r (Fw_w h_o (fr_r h_o rfl (rr_217_14 hg_o)) (hU_o 223 _ rfl)) rfl (rr_217_14 hg_o)) (hU_o 223 _ rfl)) (fr_r (Fw_w (Fw_w h_o (fr_r h_o rfl (rr_217_14 hg_o)) (hU_o 223 _ rfl)) (fr_r (Fw_w h_o (fr_r h_o rfl (rr_217_14 hg_o)) (hU_o 223 _ rfl)) rfl (rr_217_14 hg_o)) (hU_o 223 _ rfl)) rfl (rr_217_14 hg_o)) (hU_o 223 _ rfl)) (fr_r (Fw_w (Fw_w (Fw_w h_o (fr_r h_o rfl (rr_217_14 hg_o)) (hU_o 223 _ rfl)) (fr_r (Fw_w h_o (fr_r h_o rfl (rr_217_14 hg_o)) (hU_o 223 _ rfl)) rfl (rr_217_14 hg_o)) (hU_o 223 _ rfl)) (fr_r (Fw_w (Fw_w h_o (fr_r h_o rfl (rr_217_14 hg_o)) (hU_o 223 _ rfl)) (fr_r (Fw_w h_o (fr_r h_o rfl (rr_217_14 hg_o)) (hU_o 223 _ rfl)) rfl (rr_217_14 hg_o)) (hU_o 223 _ rfl)) rfl (rr_217_14 hg_o)) (hU_o 223 _ rfl)) rfl (rr_217_14 hg_o)) (hU_o 223 _ rfl)) (fr_r (Fw_w (Fw_w (Fw_w (Fw_w h_o (fr_r h_o rfl (rr_217_14 hg_o)) (hU_o 223 _ rfl)) (fr_r (Fw_w h_o (fr_r h_o rfl (rr_217_14 hg_o)) (hU_o 223 _ rfl)) rfl (rr_217_14 hg_o)) (hU_o 223 _ rfl)) (fr_r (Fw_w (Fw_w h_o (fr_r h_o rfl (rr_217_14 hg_o)) (hU_o 223 _ rfl)) (fr_r (Fw_w h_o (fr_r h_o rfl (rr_217_14 hg_o)) (hU_o 223 _ rfl)) rfl (rr_217_14 hg_o)) (hU_o 223 _ rfl)) rfl (rr_217_14 hg_o)) (hU_o 223 _ rfl)) (fr_r (Fw_w (Fw_w (Fw_w h_o (fr_r h_o rfl (rr_217_14 hg_o)) (hU_o 223 _ rfl)) (fr_r (Fw_w h_o (fr_r h_o rfl (rr_217_14 hg_o)) (hU_o 223 _ rfl)) rfl (rr_217_14 hg_o)) (hU_o 223 _ rfl)) (fr_r (Fw_w (Fw_w h_o (fr_r h_o rfl (rr_217_14 hg_o)) (hU_o 223 _ rfl)) (fr_r (Fw_w h_o (fr_r h_o rfl (rr_217_14 hg_o)) (hU_o 223 _ rfl)) rfl (rr_217_14 hg_o)) (hU_o 223 _ rfl)) rfl (rr_217_14 hg_o)) (hU_o 223 _ rfl)) rfl (rr_217_14 hg_o)) (hU_o 223 _ rfl)) rfl (rr_217_14 hg_o)) (hU_o 223 _ rfl)) (fr_r (Fw_w (Fw_w (Fw_w (Fw_w (Fw_w h_o (fr_r h_o rfl (rr_217_14 hg_o)) (hU_o 223 _ rfl)) (fr_r (Fw_w h_o (fr_r h_o rfl (rr_217_14 hg_o)) (hU_o 223 _ rfl)) rfl (rr_217_14 hg_o)) (hU_o 223 _ rfl)) (fr_r (Fw_w (Fw_w h_o (fr_r h_o rfl (rr_217_14 hg_o)) (hU_o 223 _ rfl)) (fr_r (Fw_w h_o (fr_r h_o rfl (rr_217_14 hg_o)) (hU_o 223 _ rfl)) rfl (rr_217_14 hg_o)) (hU_o 223 _ rfl)) rfl (rr_217_14 hg_o)) (hU_o 223 _ rfl)) (fr_r (Fw_w (Fw_w (Fw_w h_o (fr_r h_o rfl (rr_217_14 hg_o)) (hU_o 223 _ rfl)) (fr_r (Fw_w h_o (fr_r h_o rfl (rr_217_14 hg_o)) (hU_o 223 _ rfl)) rfl (rr_217_14 hg_o)) (hU_o 223 _ rfl)) (fr_r (Fw_w (Fw_w h_o (fr_r h_o rfl (rr_217_14 hg_o)) (hU_o 223 _ rfl)) (fr_r (Fw_w h_o (fr_r h_o rfl (rr_217_14 hg_o)) (hU_o 223 _ rfl)) rfl (rr_217_14 hg_o)) (hU_o 223 _ rfl)) rfl (rr_217_14 hg_o)) (hU_o 223 _ rfl)) rfl (rr_217_14 hg_o)) (hU_o 223 _ rfl)) (fr_r (Fw_w (Fw_w (Fw_w (Fw_w h_o (fr_r h_o rfl (rr_217_14 hg_o)) (hU_o 223 _ rfl)) (fr_r (Fw_w h_o (fr_r h_o rfl (rr_217_14 hg_o)) (hU_o 223 _ rfl)) rfl (rr_217_14 hg_o)) (hU_o 223 _ rfl)) (fr_r (Fw_w (Fw_w h_o (fr_r h_o rfl (rr_217_14 hg_o)) (hU_o 223 _ rfl)) (fr_r (Fw_w h_o (fr_r h_o rfl (rr_217_14 hg_o)) (hU_o 223 _ rfl)) rfl (rr_217_14 hg_o)) (hU_o 223 _ rfl)) rfl (rr_217_14 hg_o)) (hU_o 223 _ rfl)) (fr_r (Fw_w (Fw_w (Fw_w h_o (fr_r h_o rfl (rr_217_14 hg_o)) (hU_o 223 _ rfl)) (fr_r (Fw_w h_o (fr_r h_o rfl (rr_217_14 hg_o)) (hU_o 223 _ rfl)) rfl (rr_217_14 hg_o)) (hU_o 223 _ rfl)) (fr_r (Fw_w (Fw_w h_o (fr_r h_o rfl (rr_217_14 hg_o)) (hU_o 223 _ rfl)) (fr_r (Fw_w h_o (fr_r h_o rfl (rr_217_14 hg_o)) (hU_o 223 _ rfl)) rfl (rr_217_14 hg_o)) (hU_o 223 _ rfl)) rfl (rr_217_14 hg_o)) (hU_o 223 _ rfl)) rfl (rr_217_14 hg_o)) (hU_o 223 _ rfl)) rfl (rr_217_14 hg_o)) (hU_o 223 _ rfl)) rfl (rr_217_14 hg_o)) (hU_o 223 _ rfl)) rfl (rr_217_14 hg_o)) (hU_o 223 _ rfl)) rfl (hU_o 217 _ rfl)) rfl (hU_o 217 _ rfl)) rfl (hU_o 217 _ rfl)) rfl (hU_o 217 _ rfl)) rfl (hU_o 217 _ rfl)) rfl (hU_o 217 _ rfl)) rfl (hU_o 217 _ rfl)) rfl (hU_o 217 _ rfl))) (fun v17 s16 h746_o => ?_)
        exact gQ_ret (Fw_w h746_o rfl (hU_o 217 _ rfl))
      · unfold fb_197_100
        dsimp only
        refine gQ_bool ?_
        refine gQ_v1 (A := Fw W g) (om_184 hg_o hU_o rfl rfl (Fw_w (Fw_w (Fw_w (Fw_w (Fw_w (Fw_w (Fw_w (Fw_w (Fw_w (Fw_w (Fw_w (Fw_w (Fw_w (Fw_w (Fw_w h_o (fr_r h_o rfl (rr_217_14 hg_o)) (hU_o 223 _ rfl)) (fr_r (Fw_w h_o (fr_r h_o rfl (rr_217_14 hg_o)) (hU_o 223 _ rfl)) rfl (rr_217_14 hg_o)) (hU_o 223 _ rfl)) (fr_r (Fw_w (Fw_w h_o (fr_r h_o rfl (rr_217_14 hg_o)) (hU_o 223 _ rfl)) (fr_r (Fw_w h_o (fr_r h_o rfl (rr_217_14 hg_o)) (hU_o 223 _ rfl)) rfl (rr_217_14 hg_o)) (hU_o 223 _ rfl)) rfl (rr_217_14 hg_o)) (hU_o 223 _ rfl)) (fr_r (Fw_w (Fw_w (Fw_w h_o (fr_r h_o rfl (rr_217_14 hg_o)) (hU_o 223 _ rfl)) (fr_r (Fw_w h_o (fr_r h_o rfl (rr_217_14 hg_o)) (hU_o 223 _ rfl)) rfl (rr_217_14 hg_o)) (hU_o 223 _ rfl)) (fr_r (Fw_w (Fw_w h_o (fr_r h_o rfl (rr_217_14 hg_o)) (hU_o 223 _ rfl)) (fr_r (Fw_w h_o (fr_r h_o rfl (rr_217_14 hg_o)) (hU_o 223 _ rfl)) rfl (rr_217_14 hg_o)) (hU_o 223 _ rfl)) rfl (rr_217_14 hg_o)) (hU_o 223 _ rfl)) rfl (rr_217_14 hg_o)) (hU_o 223 _ rfl)) (fr_r (Fw_w (Fw_w (Fw_w (Fw_w h_o (fr_r h_o rfl (rr_217_14 hg_o)) (hU_o 223 _ rfl)) (fr_r (Fw_w h_o (fr_r h_o rfl (rr_217_14 hg_o)) (hU_o 223 _ rfl)) rfl (rr_217_14 hg_o)) (hU_o 223 _ rfl)) (fr_r (Fw_w (Fw_w h_o (fr_r h_o rfl (rr_217_14 hg_o)) (hU_o 223 _ rfl)) (fr_r (Fw_w h_o (fr_r h_o rfl (rr_217_14 hg_o)) (hU_o 223 _ rfl)) rfl (rr_217_14 hg_o)) (hU_o 223 _ rfl)) rfl (rr_217_14 hg_o)) (hU_o 223 _ rfl)) (fr_r (Fw_w (Fw_w (Fw_w h_o (fr_r h_o rfl (rr_217_14 hg_o)) (hU_o 223 _ rfl)) (fr_r (Fw_w h_o (fr_r h_o rfl (rr_217_14 hg_o)) (hU_o 223 _ rfl)) rfl (rr_217_14 hg_o)) (hU_o 223 _ rfl)) (fr_r (Fw_w (Fw_w h_o (fr_r h_o rfl (rr_217_14 hg_o)) (hU_o 223 _ rfl)) (fr_r (Fw_w h_o (fr_r h_o rfl (rr_217_14 hg_o)) (hU_o 223 _ rfl)) rfl (rr_217_14 hg_o)) (hU_o 223 _ rfl)) rfl (rr_217_14 hg_o)) (hU_o 223 _ rfl)) rfl (rr_217_14 hg_o)) (hU_o 223 _ rfl)) rfl (rr_217_14 hg_o)) (hU_o 223 _ rfl)) (fr_r (Fw_w (Fw_w (Fw_w (Fw_w (Fw_w h_o (fr_r h_o rfl (rr_217_14 hg_o)) (hU_o 223 _ rfl)) (fr_r (Fw_w h_o (fr_r h_o rfl (rr_217_14 hg_o)) (hU_o 223 _ rfl)) rfl (rr_217_14 hg_o)) (hU_o 223 _ rfl)) (fr_r (Fw_w (Fw_w h_o (fr_r h_o rfl (rr_217_14 hg_o)) (hU_o 223 _ rfl)) (fr_r (Fw_w h_o (fr_r h_o rfl (rr_217_14 hg_o)) (hU_o 223 _ rfl)) rfl (rr_217_14 hg_o)) (hU_o 223 _ rfl)) rfl (rr_217_14 hg_o)) (hU_o 223 _ rfl)) (fr_r (Fw_w (Fw_w (Fw_w h_o (fr_r h_o rfl (rr_217_14 hg_o)) (hU_o 223 _ rfl)) (fr_r (Fw_w h_o (fr_r h_o rfl (rr_217_14 hg_o)) (hU_o 223 _ rfl)) rfl (rr_217_14 hg_o)) (hU_o 223 _ rfl)) (fr_r (Fw_w (Fw_w h_o (fr_r h_o rfl (rr_217_14 hg_o)) (hU_o 223 _ rfl)) (fr_r (Fw_w h_o (fr_r h_o rfl (rr_217_14 hg_o)) (hU_o 223 _ rfl)) rfl (rr_217_14 hg_o)) (hU_o 223 _ rfl)) rfl (rr_217_14 hg_o)) (hU_o 223 _ rfl)) rfl (rr_217_14 hg_o)) (hU_o 223 _ rfl)) (fr_r (Fw_w (Fw_w (Fw_w (Fw_w h_o (fr_r h_o rfl (rr_217_14 hg_o)) (hU_o 223 _ rfl)) (fr_r (Fw_w h_o (fr_r h_o rfl (rr_217_14 hg_o)) (hU_o 223 _ rfl)) rfl (rr_217_14 hg_o)) (hU_o 223 _ rfl)) (fr_r (Fw_w (Fw_w h_o (fr_r h_o rfl (rr_217_14 hg_o)) (hU_o 223 _ rfl)) (fr_r (Fw_w h_o (fr_r h_o rfl (rr_217_14 hg_o)) (hU_o 223 _ rfl)) rfl (rr_217_14 hg_o)) (hU_o 223 _ rfl)) rfl (rr_217_14 hg_o)) (hU_o 223 _ rfl)) (fr_r (Fw_w (Fw_w (Fw_w h_o (fr_r h_o rfl (rr_217_14 hg_o)) (hU_o 223 _ rfl)) (fr_r (Fw_w h_o (fr_r h_o rfl (rr_217_14 hg_o)) (hU_o 223 _ rfl)) rfl (rr_217_14 hg_o)) (hU_o 223 _ rfl)) (fr_r (Fw_w (Fw_w h_o (fr_r h_o rfl (rr_217_14 hg_o)) (hU_o 223 _ rfl)) (fr_r (Fw_w h_o (fr_r h_o rfl (rr_217_14 hg_o)) (hU_o 223 _ rfl)) rfl (rr_217_14 hg_o)) (hU_o 223 _ rfl)) rfl (rr_217_14 hg_o)) (hU_o 223 _ rfl)) rfl (rr_217_14 hg_o)) (hU_o 223 _ rfl)) rfl (rr_217_14 hg_o)) (hU_o 223 _ rfl)) rfl (rr_217_14 hg_o)) (hU_o 223 _ rfl)) (fr_r (Fw_w (Fw_w (Fw_w (Fw_w (Fw_w (Fw_w h_o (fr_r h_o rfl (rr_217_14 hg_o)) (hU_o 223 _ rfl)) (fr_r (Fw_w h_o (fr_r h_o rfl (rr_217_14 hg_o)) (hU_o 223 _ rfl)) rfl (rr_217_14 hg_o)) (hU_o 223 _ rfl)) (fr_r (Fw_w (Fw_w h_o (fr_r h_o rfl (rr_217_14 hg_o)) (hU_o 223 _ rfl)) (fr_r (Fw_w h_o (fr_r h_o rfl (rr_217_14 hg_o)) (hU_o 223 _ rfl)) rfl (rr_217_14 hg_o)) (hU_o 223 _ rfl)) rfl (rr_217_14 hg_o)) (hU_o 223 _ rfl)) (fr_r (Fw_w (Fw_w (Fw_w h_o (fr_r h_o rfl (rr_217_14 hg_o)) (hU_o 223 _ rfl)) (fr_r (Fw_w h_o (fr_r h_o rfl (rr_217_14 hg_o)) (hU_o 223 _ rfl)) rfl (rr_217_14 hg_o)) (hU_o 223 _ rfl)) (fr_r (Fw_w (Fw_w h_o (fr_r h_o rfl (rr_217_14 hg_o)) (hU_o 223 _ rfl)) (fr_r (Fw_w h_o (fr_r h_o rfl (rr_217_14 hg_o)) (hU_o 223 _ rfl)) rfl (rr_217_14 hg_o)) (hU_o 223 _ rfl)) rfl (rr_217_14 hg_o)) (hU_o 223 _ rfl)) rfl (rr_217_14 hg_o)) (hU_o 223 _ rfl)) (fr_r (Fw_w (Fw_w (Fw_w (Fw_w h_o (fr_r h_o rfl (rr_217_14 hg_o)) (hU_o 223 _ rfl)) (fr_r (Fw_w h_o (fr_r h_o rfl (rr_217_14 hg_o)) (hU_o 223 _ rfl)) rfl (rr_217_14 hg_o)) (hU_o 223 _ rfl)) (fr_r (Fw_w (Fw_w h_o (fr_r h_o rfl (rr_217_14 hg_o)) (hU_o 223 _ rfl)) (fr_r (Fw_w h_o (fr_r h_o rfl (rr_217_14 hg_o)) (hU_o 223 _ rfl)) rfl (rr_217_14 hg_o)) (hU_o 223 _ rfl)) rfl (rr_217_14 hg_o)) (hU_o 223 _ rfl)) (fr_r (Fw_w (Fw_w (Fw_w h_o (fr_r h_o rfl (rr_217_14 hg_o)) (hU_o 223 _ rfl)) (fr_r (Fw_w h_o (fr_r h_o rfl (rr_217_14 hg_o)) (hU_o 223 _ rfl)) rfl (rr_217_14 hg_o)) (hU_o 223 _ rfl)) (fr_r (Fw_w (Fw_w h_o (fr_r h_o rfl (rr_217_14 hg_o)) (hU_o 223 _ rfl)) (fr_r (Fw_w h_o (fr_r h_o rfl (rr_217_14 hg_o)) (hU_o 223 _ rfl)) rfl (rr_217_14 hg_o)) (hU_o 223 _ rfl)) rfl (rr_217_14 hg_o)) (hU_o 223 _ rfl)) rfl (rr_217_14 hg_o)) (hU_o 223 _ rfl)) rfl (rr_217_14 hg_o)) (hU_o 223 _ rfl)) (fr_r (Fw_w (Fw_w (Fw_w (Fw_w (Fw_w h_o (fr_r h_o rfl (rr_217_14 hg_o)) (hU_o 223 _ rfl)) (fr_r (Fw_w h_o (fr_r h_o rfl (rr_217_14 hg_o)) (hU_o 223 _ rfl)) rfl (rr_217_14 hg_o)) (hU_o 223 _ rfl)) (fr_r (Fw_w (Fw_w h_o (fr_r h_o rfl (rr_217_14 hg_o)) (hU_o 223 _ rfl)) (fr_r (Fw_w h_o (fr_r h_o rfl (rr_217_14 hg_o)) (hU_o 223 _ rfl)) rfl (rr_217_14 hg_o)) (hU_o 223 _ rfl)) rfl (rr_217_14 hg_o)) (hU_o 223 _ rfl)) (fr_r (Fw_w (Fw_w (Fw_w h_o (fr_r h_o rfl (rr_217_14 hg_o)) (hU_o 223 _ rfl)) (fr_r (Fw_w h_o (fr_r h_o rfl (rr_217_14 hg_o)) (hU_o 223 _ rfl)) rfl (rr_217_14 hg_o)) (hU_o 223 _ rfl)) (fr_r (Fw_w (Fw_w h_o (fr_r h_o rfl (rr_217_14 hg_o)) (hU_o 223 _ rfl)) (fr_r (Fw_w h_o (fr_r h_o rfl (rr_217_14 hg_o)) (hU_o 223 _ rfl)) rfl (rr_217_14 hg_o)) (hU_o 223 _ rfl)) rfl (rr_217_14 hg_o)) (hU_o 223 _ rfl)) rfl (rr_217_14 hg_o)) (hU_o 223 _ rfl)) (fr_r (Fw_w (Fw_w (Fw_w (Fw_w h_o (fr_r h_o rfl (rr_217_14 hg_o)) (hU_o 223 _ rfl)) (fr_r (Fw_w h_o (fr_r h_o rfl (rr_217_14 hg_o)) (hU_o 223 _ rfl)) rfl (rr_217_14 hg_o)) (hU_o 223 _ rfl)) (fr_r (Fw_w (Fw_w h_o (fr_r h_o rfl (rr_217_14 hg_o)) (hU_o 223 _ rfl)) (fr_r (Fw_w h_o (fr_r h_o rfl (rr_217_14 hg_o)) (hU_o 223 _ rfl)) rfl (rr_217_14 hg_o)) (hU_o 223 _ rfl)) rfl (rr_217_14 hg_o)) (hU_o 223 _ rfl)) (fr_r (Fw_w (Fw_w (Fw_w h_o (fr_r h_o rfl (rr_217_14 hg_o)) (hU_o 223 _ rfl)) (fr_r (Fw_w h_o (fr_r h_o rfl (rr_217_14 hg_o)) (hU_o 223 _ rfl)) rfl (rr_217_14 hg_o)) (hU_o 223 _ rfl)) (fr_r (Fw_w (Fw_w h_o (fr_r h_o rfl (rr_217_14 hg_o)) (hU_o 223 _ rfl)) (fr_r (Fw_w h_o (fr_r h_o rfl (rr_217_14 hg_o)) (hU_o 223 _ rfl)) rfl (rr_217_14 hg_o)) (hU_o 223 _ rfl)) rfl (rr_217_14 hg_o)) (hU_o 223 _ rfl)) rfl (rr_217_14 hg_o)) (hU_o 223 _ rfl)) rfl (rr_217_14 hg_o)) (hU_o 223 _ rfl)) rfl (rr_217_14 hg_o)) (hU_o 223 _ rfl)) rfl (rr_217_14 hg_o)) (hU_o 223 _ rfl)) rfl (hU_o 217 _ rfl)) rfl (hU_o 217 _ rfl)) rfl (hU_o 217 _ rfl)) rfl (hU_o 217 _ rfl)) rfl (hU_o 217 _ rfl)) rfl (hU_o 217 _ rfl)) rfl (hU_o 217 _ rfl)) rfl (hU_o 217 _ rfl))) (fun v17 s16 h747_o => ?_)
        exact gQ_ret (Fw_w h747_o rfl (hU_o 217 _ rfl))

theorem om_198 {W : Nat → Nat → Bool} {g s : gS} {a0 : Nat} {a1 : Int} (hg_o : RF g) (hU_o : ∀ a k, mss a k = true → W a k = true) (ea0_o : a0 = 217) (h_o : Fw W g s) : gQ (f_198 a0 a1 s) (fun r => Fw W g r.2.2.2) := by
  subst ea0_o
  unfold f_198
  refine gQ_v1 (A := Fw W g) (om_156 hg_o hU_o rfl h_o) (fun v2 s1_l h748_o => ?_)
  refine gQ_v1 (A := Fw W g) (om_156 hg_o hU_o rfl h748_o) (fun v4_l s3_l h749_o => ?_)
  refine gQ_v1 (A := Fw W g) (om_156 hg_o hU_o rfl h749_o) (fun v6 s5 h750_o => ?_)
  refine gQ_v1 (A := Fw W g) (om_156 hg_o hU_o rfl h750_o) (fun v8 s7 h751_o => ?_)
  refine gQ_v1 (A := Fw W g) (om_197 hg_o hU_o rfl h751_o) (fun v10 s9 h752_o => ?_)
  exact gQ_ret h752_o

theorem om_199 {W : Nat → Nat → Bool} {g s : gS} {a0 : Nat} {a1 : Int} (hg_o : RF g) (hU_o : ∀ a k, msd a k = true → W a k = true) (ea0_o : a0 = 217) (h_o : Fw W g s) : gQ (f_199 a0 a1 s) (fun r => Fw W g r.2.2.2) := by
  subst ea0_o
  unfold f_199
  dsimp only
  refine gQ_ite ?_ ?_
  · exact gQ_none
  · exact gQ_ret (Fw_w h_o (fr_r h_o rfl (rr_217_1 hg_o)) (hU_o 218 _ rfl))

theorem om_200 {W : Nat → Nat → Bool} {g s : gS} {a0 : Nat} {a1 : Int} (hg_o : RF g) (hU_o : ∀ a k, msd a k = true → W a k = true) (ea0_o : a0 = 217) (h_o : Fw W g s) : gQ (f_200 a0 a1 s) (fun r => Fw W g r.2.2.2) := by
  subst ea0_o
  unfold f_200
  dsimp only
  refine gQ_v1 (A := Fw W g) (om_151 hg_o (mqd_o hU_o)  h_o) (fun v2 s1_l h753_o => ?_)
  refine gQ_v1 (A := Fw W g) (om_151 hg_o (mqd_o hU_o)  (Fw_w h753_o (fr_r h753_o rfl (rr_217_1 hg_o)) (hU_o 218 _ rfl))) (fun v5 s4_l h754_o => ?_)
  exact gQ_ret (Fw_w h754_o (fr_r (Fw_w h753_o (fr_r h753_o rfl (rr_217_1 hg_o)) (hU_o 218 _ rfl)) rfl (rr_217_1 hg_o)) (hU_o 218 _ rfl))

theorem om_196 {W : Nat → Nat → Bool} {g s : gS} {a0 : Nat} (hg_o : RF g) (hU_o : ∀ a k, mss a k = true → W a k = true) (ea0_o : a0 = 217) (h_o : Fw W g s) : gQ (f_196 a0 s) (fun r => Fw W g r.2.2.2) := by
  subst ea0_o
  unfold f_196
  dsimp only
  exact gQ_ret (Fw_w h_o rfl (hU_o 217 _ rfl))

theorem om_203 {W : Nat → Nat → Bool} {g s : gS} {a0 : Nat} {a1 : Int} {a2 : Int} (hg_o : RF g) (hU_o : ∀ a k, mss a k = true → W a k = true) (ea0_o : a0 = 217) (h_o : Fw W g s) : gQ (f_203 a0 a1 a2 s) (fun r => Fw W g r.2.2.2) := by
  subst ea0_o
  unfold f_203
  refine gQ_v1 (A := Fw W g) (om_161 hg_o hU_o rfl h_o) (fun v2 s1_l h755_o => ?_)
  refine gQ_ite ?_ ?_
  · unfold fb_203_27
    dsimp only
    refine gQ_ite ?_ ?_
    · exact gQ_ret (Fw_w h755_o rfl (hU_o 217 _ rfl))
    · refine gQ_ite ?_ ?_
      · refine gQ_v1 (A := Fw W g) (om_155 hg_o hU_o rfl (Fw_w h755_o rfl (hU_o 217 _ rfl))) (fun v6 s5 h756_o => ?_)
        exact gQ_ret h756_o
      · refine gQ_loop (fun y_l => y_l.1 = 217 ∧ Fw W g (y_l.2.2.2.2)) (fun y_l hy_o => ?_) ⟨rfl, (Fw_w h755_o rfl (hU_o 217 _ rfl))⟩
        obtain ⟨x757_o, x758_o, x759_o, x760_o, x761_o⟩ := y_l
        obtain ⟨e763_o, h762_o⟩ := hy_o
        dsimp only at e763_o h762_o
        subst e763_o
        show gQ (sb_203_56 217 x758_o x759_o x760_o x761_o) _
        unfold sb_203_56
        dsimp only
        refine gQ_ite ?_ ?_
        · refine gQ_v1 (A := Fw W g) (om_160 hg_o hU_o rfl h762_o) (fun v8 s7 h764_o => ?_)
          refine gQ_v1 (A := Fw W g) (om_153 hg_o hU_o  h764_o) (fun v10 s9 h765_o => ?_)
          refine gQ_ite ?_ ?_
          · exact gQ_ret ⟨rfl, h765_o⟩
          · exact gQ_ret ⟨rfl, h765_o⟩
        · refine gQ_map ?_
          exact gQ_ret h762_o
  · refine gQ_v1 (A := Fw W g) (om_150 hg_o hU_o  h755_o) (fun v14 s13 h766_o => ?_)
    refine gQ_ite ?_ ?_
    · unfold fb_203_27
      dsimp only
      refine gQ_ite ?_ ?_
      · exact gQ_ret (Fw_w h766_o rfl (hU_o 217 _ rfl))
      · refine gQ_ite ?_ ?_
        · refine gQ_v1 (A := Fw W g) (om_155 hg_o hU_o rfl (Fw_w h766_o rfl (hU_o 217 _ rfl))) (fun v6 s5 h767_o => ?_)
          exact gQ_ret h767_o
        · refine gQ_loop (fun y_l => y_l.1 = 217 ∧ Fw W g (y_l.2.2.2.2)) (fun y_l hy_o => ?_) ⟨rfl, (Fw_w h766_o rfl (hU_o 217 _ rfl))⟩
          obtain ⟨x768_o, x769_o, x770_o, x771_o, x772_o⟩ := y_l
          obtain ⟨e774_o, h773_o⟩ := hy_o
          dsimp only at e774_o h773_o
          subst e774_o
          show gQ (sb_203_56 217 x769_o x770_o x771_o x772_o) _
          unfold sb_203_56
          dsimp only
          refine gQ_ite ?_ ?_
          · refine gQ_v1 (A := Fw W g) (om_160 hg_o hU_o rfl h773_o) (fun v8 s7 h775_o => ?_)
            refine gQ_v1 (A := Fw W g) (om_153 hg_o hU_o  h775_o) (fun v10 s9 h776_o => ?_)
            refine gQ_ite ?_ ?_
            · exact gQ_ret ⟨rfl, h776_o⟩
            · exact gQ_ret ⟨rfl, h776_o⟩
          · refine gQ_map ?_
            exact gQ_ret h773_o
    · unfold fb_203_27
      dsimp only
      refine gQ_ite ?_ ?_
      · exact gQ_ret (Fw_w h766_o rfl (hU_o 217 _ rfl))
      · refine gQ_ite ?_ ?_
        · refine gQ_v1 (A := Fw W g) (om_155 hg_o hU_o rfl (Fw_w h766_o rfl (hU_o 217 _ rfl))) (fun v6 s5 h777_o => ?_)
          exact gQ_ret h777_o
        · refine gQ_loop (fun y_l => y_l.1 = 217 ∧ Fw W g (y_l.2.2.2.2)) (fun y_l hy_o => ?_) ⟨rfl, (Fw_w h766_o rfl (hU_o 217 _ rfl))⟩
          obtain ⟨x778_o, x779_o, x780_o, x781_o, x782_o⟩ := y_l
          obtain ⟨e784_o, h783_o⟩ := hy_o
          dsimp only at e784_o h783_o
          subst e784_o
          show gQ (sb_203_56 217 x779_o x780_o x781_o x782_o) _
          unfold sb_203_56
          dsimp only
          refine gQ_ite ?_ ?_
          · refine gQ_v1 (A := Fw W g) (om_160 hg_o hU_o rfl h783_o) (fun v8 s7 h785_o => ?_)
            refine gQ_v1 (A := Fw W g) (om_153 hg_o hU_o  h785_o) (fun v10 s9 h786_o => ?_)
            refine gQ_ite ?_ ?_
            · exact gQ_ret ⟨rfl, h786_o⟩
            · exact gQ_ret ⟨rfl, h786_o⟩
          · refine gQ_map ?_
            exact gQ_ret h783_o

theorem om_204 {W : Nat → Nat → Bool} {g s : gS} {a0 : Nat} {a1 : Int} {a2 : Int} (hg_o : RF g) (hU_o : ∀ a k, mss a k = true → W a k = true) (ea0_o : a0 = 217) (h_o : Fw W g s) : gQ (f_204 a0 a1 a2 s) (fun r => Fw W g r.2.2.2) := by
  subst ea0_o
  unfold f_204
  refine gQ_v1 (A := Fw W g) (om_156 hg_o hU_o rfl h_o) (fun v2 s1_l h787_o => ?_)
  refine gQ_loop (fun y_l => y_l.1 = 217 ∧ Fw W g (y_l.2.2.2.2)) (fun y_l hy_o => ?_) ⟨rfl, h787_o⟩
  obtain ⟨x788_o, x789_o, x790_o, x791_o, x792_o⟩ := y_l
  obtain ⟨e794_o, h793_o⟩ := hy_o
  dsimp only at e794_o h793_o
  subst e794_o
  show gQ (sb_204_10 217 x789_o x790_o x791_o x792_o) _
  unfold sb_204_10
  refine gQ_ite ?_ ?_
  · refine gQ_v1 (A := Fw W g) (om_155 hg_o hU_o rfl h793_o) (fun v4_l s3_l h795_o => ?_)
    exact gQ_ret ⟨rfl, h795_o⟩
  · refine gQ_map ?_
    exact gQ_ret h793_o

theorem om_205 {W : Nat → Nat → Bool} {g s : gS} {a0 : Nat} {a1 : Int} (hg_o : RF g) (hU_o : ∀ a k, mss a k = true → W a k = true) (ea0_o : a0 = 217) (h_o : Fw W g s) : gQ (f_205 a0 a1 s) (fun r => Fw W g r.2.2.2) := by
  subst ea0_o
  unfold f_205
  refine gQ_v1 (A := Fw W g) (om_204 hg_o hU_o rfl h_o) (fun v2 s1_l h796_o => ?_)
  refine gQ_v1 (A := Fw W g) (om_156 hg_o hU_o rfl h796_o) (fun v4_l s3_l h797_o => ?_)
  refine gQ_ite ?_ ?_
  · refine gQ_v1 (A := Fw W g) (om_156 hg_o hU_o rfl h797_o) (fun v6 s5 h798_o => ?_)
    refine gQ_v1 (A := Fw W g) (om_155 hg_o hU_o rfl h798_o) (fun v8 s7 h799_o => ?_)
    exact gQ_ret h799_o
  · exact gQ_ret h797_o

theorem om_206 {W : Nat → Nat → Bool} {g s : gS} {a0 : Nat} {a1 : Int} {a2 : Int} (hg_o : RF g) (hU_o : ∀ a k, mss a k = true → W a k = true) (ea0_o : a0 = 217) (h_o : Fw W g s) : gQ (f_206 a0 a1 a2 s) (fun r => Fw W g r.2.2.2) := by
  subst ea0_o
  unfold f_206
  refine gQ_v1 (A := Fw W g) (om_162 hg_o hU_o rfl h_o) (fun v2 s1_l h800_o => ?_)
  refine gQ_ite ?_ ?_
  · unfold fb_206_28
    dsimp only
    refine gQ_ite ?_ ?_
    · exact gQ_ret (Fw_w h800_o rfl (hU_o 217 _ rfl))
    · refine gQ_ite ?_ ?_
      · refine gQ_v1 (A := Fw W g) (om_156 hg_o hU_o rfl (Fw_w h800_o rfl (hU_o 217 _ rfl))) (fun v6 s5 h801_o => ?_)
        exact gQ_ret h801_o
      · refine gQ_ite ?_ ?_
        · refine gQ_v1 (A := Fw W g) (om_198 hg_o hU_o rfl (Fw_w h800_o rfl (hU_o 217 _ rfl))) (fun v8 s7 h802_o => ?_)
          exact gQ_ret h802_o
        · refine gQ_ite ?_ ?_
          · refine gQ_v1 (A := Fw W g) (om_205 hg_o hU_o rfl (Fw_w h800_o rfl (hU_o 217 _ rfl))) (fun v10 s9 h803_o => ?_)
            exact gQ_ret h803_o
          · refine gQ_ite ?_ ?_
            · refine gQ_v1 (A := Fw W g) (om_204 hg_o hU_o rfl (Fw_w h800_o rfl (hU_o 217 _ rfl))) (fun v12 s11 h804_o => ?_)
              refine gQ_v1 (A := Fw W g) (om_156 hg_o hU_o rfl h804_o) (fun v14 s13 h805_o => ?_)
              exact gQ_ret h805_o
            · refine gQ_v1 (A := Fw W g) (om_204 hg_o hU_o rfl (Fw_w h800_o rfl (hU_o 217 _ rfl))) (fun v16 s15 h806_o => ?_)
              refine gQ_v1 (A := Fw W g) (om_205 hg_o hU_o rfl h806_o) (fun v18 s17 h807_o => ?_)
              exact gQ_ret h807_o
  · refine gQ_v1 (A := Fw W g) (om_150 hg_o hU_o  h800_o) (fun v20 s19 h808_o => ?_)
    refine gQ_ite ?_ ?_
    · unfold fb_206_28
      dsimp only
      refine gQ_ite ?_ ?_
      · exact gQ_ret (Fw_w h808_o rfl (hU_o 217 _ rfl))
      · refine gQ_ite ?_ ?_
        · refine gQ_v1 (A := Fw W g) (om_156 hg_o hU_o rfl (Fw_w h808_o rfl (hU_o 217 _ rfl))) (fun v6 s5 h809_o => ?_)
          exact gQ_ret h809_o
        · refine gQ_ite ?_ ?_
          · refine gQ_v1 (A := Fw W g) (om_198 hg_o hU_o rfl (Fw_w h808_o rfl (hU_o 217 _ rfl))) (fun v8 s7 h810_o => ?_)
            exact gQ_ret h810_o
          · refine gQ_ite ?_ ?_
            · refine gQ_v1 (A := Fw W g) (om_205 hg_o hU_o rfl (Fw_w h808_o rfl (hU_o 217 _ rfl))) (fun v10 s9 h811_o => ?_)
              exact gQ_ret h811_o
            · refine gQ_ite ?_ ?_
              · refine gQ_v1 (A := Fw W g) (om_204 hg_o hU_o rfl (Fw_w h808_o rfl (hU_o 217 _ rfl))) (fun v12 s11 h812_o => ?_)
                refine gQ_v1 (A := Fw W g) (om_156 hg_o hU_o rfl h812_o) (fun v14 s13 h813_o => ?_)
                exact gQ_ret h813_o
              · refine gQ_v1 (A := Fw W g) (om_204 hg_o hU_o rfl (Fw_w h808_o rfl (hU_o 217 _ rfl))) (fun v16 s15 h814_o => ?_)
                refine gQ_v1 (A := Fw W g) (om_205 hg_o hU_o rfl h814_o) (fun v18 s17 h815_o => ?_)
                exact gQ_ret h815_o
    · unfold fb_206_28
      dsimp only
      refine gQ_ite ?_ ?_
      · exact gQ_ret (Fw_w h808_o rfl (hU_o 217 _ rfl))
      · refine gQ_ite ?_ ?_
        · refine gQ_v1 (A := Fw W g) (om_156 hg_o hU_o rfl (Fw_w h808_o rfl (hU_o 217 _ rfl))) (fun v6 s5 h816_o => ?_)
          exact gQ_ret h816_o
        · refine gQ_ite ?_ ?_
          · refine gQ_v1 (A := Fw W g) (om_198 hg_o hU_o rfl (Fw_w h808_o rfl (hU_o 217 _ rfl))) (fun v8 s7 h817_o => ?_)
            exact gQ_ret h817_o
          · refine gQ_ite ?_ ?_
            · refine gQ_v1 (A := Fw W g) (om_205 hg_o hU_o rfl (Fw_w h808_o rfl (hU_o 217 _ rfl))) (fun v10 s9 h818_o => ?_)
              exact gQ_ret h818_o
            · refine gQ_ite ?_ ?_
              · refine gQ_v1 (A := Fw W g) (om_204 hg_o hU_o rfl (Fw_w h808_o rfl (hU_o 217 _ rfl))) (fun v12 s11 h819_o => ?_)
                refine gQ_v1 (A := Fw W g) (om_156 hg_o hU_o rfl h819_o) (fun v14 s13 h820_o => ?_)
                exact gQ_ret h820_o
              · refine gQ_v1 (A := Fw W g) (om_204 hg_o hU_o rfl (Fw_w h808_o rfl (hU_o 217 _ rfl))) (fun v16 s15 h821_o => ?_)
                refine gQ_v1 (A := Fw W g) (om_205 hg_o hU_o rfl h821_o) (fun v18 s17 h822_o => ?_)
                exact gQ_ret h822_o

theorem om_207 {W : Nat → Nat → Bool} {g s : gS} {a0 : Nat} {a1 : Int} {a2 : Int} (hg_o : RF g) (hU_o : ∀ a k, mss a k = true → W a k = true) (ea0_o : a0 = 217) (h_o : Fw W g s) : gQ (f_207 a0 a1 a2 s) (fun r => Fw W g r.2.2.2) := by
  subst ea0_o
  unfold f_207
  refine gQ_v1 (A := Fw W g) (om_163 hg_o hU_o rfl h_o) (fun v2 s1_l h823_o => ?_)
  refine gQ_ite ?_ ?_
  · unfold fb_207_14
    dsimp only
    refine gQ_ite ?_ ?_
    · exact gQ_ret (Fw_w h823_o rfl (hU_o 217 _ rfl))
    · refine gQ_ite ?_ ?_
      · refine gQ_v1 (A := Fw W g) (om_158 hg_o hU_o rfl (Fw_w h823_o rfl (hU_o 217 _ rfl))) (fun v6 s5 h824_o => ?_)
        exact gQ_ret h824_o
      · refine gQ_v1 (A := Fw W g) (om_159 hg_o hU_o rfl (Fw_w h823_o rfl (hU_o 217 _ rfl))) (fun v8 s7 h825_o => ?_)
        exact gQ_ret h825_o
  · unfold fb_207_14
    dsimp only
    refine gQ_ite ?_ ?_
    · exact gQ_ret (Fw_w h823_o rfl (hU_o 217 _ rfl))
    · refine gQ_ite ?_ ?_
      · refine gQ_v1 (A := Fw W g) (om_158 hg_o hU_o rfl (Fw_w h823_o rfl (hU_o 217 _ rfl))) (fun v6 s5 h826_o => ?_)
        exact gQ_ret h826_o
      · refine gQ_v1 (A := Fw W g) (om_159 hg_o hU_o rfl (Fw_w h823_o rfl (hU_o 217 _ rfl))) (fun v8 s7 h827_o => ?_)
        exact gQ_ret h827_o

theorem om_208 {W : Nat → Nat → Bool} {g s : gS} {a0 : Nat} {a1 : Int} {a2 : Int} (hg_o : RF g) (hU_o : ∀ a k, mss a k = true → W a k = true) (ea0_o : a0 = 217) (h_o : Fw W g s) : gQ (f_208 a0 a1 a2 s) (fun r => Fw W g r.2.2.2) := by
  subst ea0_o
  unfold f_208
  refine gQ_v1 (A := Fw W g) (om_164 hg_o hU_o rfl h_o) (fun v2 s1_l h828_o => ?_)
  refine gQ_ite ?_ ?_
  · unfold fb_208_14
    dsimp only
    refine gQ_ite ?_ ?_
    · exact gQ_ret (Fw_w h828_o rfl (hU_o 217 _ rfl))
    · refine gQ_ite ?_ ?_
      · unfold fb_208_39
        refine gQ_v1 (A := Fw W g) (om_160 hg_o hU_o rfl (Fw_w h828_o rfl (hU_o 217 _ rfl))) (fun v6 s5 h829_o => ?_)
        exact gQ_ret h829_o
      · unfold fb_208_39
        refine gQ_v1 (A := Fw W g) (om_160 hg_o hU_o rfl (Fw_w h828_o rfl (hU_o 217 _ rfl))) (fun v6 s5 h830_o => ?_)
        exact gQ_ret h830_o
  · unfold fb_208_14
    dsimp only
    refine gQ_ite ?_ ?_
    · exact gQ_ret (Fw_w h828_o rfl (hU_o 217 _ rfl))
    · refine gQ_ite ?_ ?_
      · unfold fb_208_39
        refine gQ_v1 (A := Fw W g) (om_160 hg_o hU_o rfl (Fw_w h828_o rfl (hU_o 217 _ rfl))) (fun v6 s5 h831_o => ?_)
        exact gQ_ret h831_o
      · unfold fb_208_39
        refine gQ_v1 (A := Fw W g) (om_160 hg_o hU_o rfl (Fw_w h828_o rfl (hU_o 217 _ rfl))) (fun v6 s5 h832_o => ?_)
        exact gQ_ret h832_o

theorem om_212 {W : Nat → Nat → Bool} {g s : gS} {a0 : Nat} {a1 : Int} {a2 : Int} (hg_o : RF g) (hU_o : ∀ a k, mss a k = true → W a k = true) (ea0_o : a0 = 217) (h_o : Fw W g s) : gQ (f_212 a0 a1 a2 s) (fun r => Fw W g r.2.2.2) := by
  subst ea0_o
  unfold f_212
  refine gQ_v1 (A := Fw W g) (om_159 hg_o hU_o rfl h_o) (fun v2 s1_l h833_o => ?_)
  refine gQ_ite ?_ ?_
  · exact gQ_ret h833_o
  · exact gQ_ret h833_o

theorem om_231 {W : Nat → Nat → Bool} {g s : gS} {a0 : Nat} {a1 : Int} (hg_o : RF g) (hU_o : ∀ a k, mss a k = true → W a k = true) (ea0_o : a0 = 217) (h_o : Fw W g s) : gQ (f_231 a0 a1 s) (fun r => Fw W g r.2.2.2) := by
  subst ea0_o
  unfold f_231
  refine gQ_loop (fun y_l => y_l.1 = 217 ∧ Fw W g (y_l.2.2.2.2)) (fun y_l hy_o => ?_) ⟨rfl, h_o⟩
  obtain ⟨x834_o, x835_o, x836_o, x837_o, x838_o⟩ := y_l
  obtain ⟨e840_o, h839_o⟩ := hy_o
  dsimp only at e840_o h839_o
  subst e840_o
  show gQ (sb_231_4 217 x835_o x836_o x837_o x838_o) _
  unfold sb_231_4
  refine gQ_ite ?_ ?_
  · refine gQ_v1 (A := Fw W g) (om_153 hg_o hU_o  h839_o) (fun v2 s1_l h841_o => ?_)
    refine gQ_ite ?_ ?_
    · exact gQ_ret ⟨rfl, h841_o⟩
    · refine gQ_v1 (A := Fw W g) (om_159 hg_o hU_o rfl h841_o) (fun v5 s4_l h842_o => ?_)
      exact gQ_ret ⟨rfl, h842_o⟩
  · refine gQ_map ?_
    exact gQ_ret h839_o

theorem om_232 {W : Nat → Nat → Bool} {g s : gS} {a0 : Nat} {a1 : Int} (hg_o : RF g) (hU_o : ∀ a k, mss a k = true → W a k = true) (ea0_o : a0 = 217) (h_o : Fw W g s) : gQ (f_232 a0 a1 s) (fun r => Fw W g r.2.2.2) := by
  subst ea0_o
  unfold f_232
  refine gQ_loop (fun y_l => y_l.1 = 217 ∧ Fw W g (y_l.2.2.2.2)) (fun y_l hy_o => ?_) ⟨rfl, h_o⟩
  obtain ⟨x843_o, x844_o, x845_o, x846_o, x847_o⟩ := y_l
  obtain ⟨e849_o, h848_o⟩ := hy_o
  dsimp only at e849_o h848_o
  subst e849_o
  show gQ (sb_232_4 217 x844_o x845_o x846_o x847_o) _
  unfold sb_232_4
  refine gQ_ite ?_ ?_
  · refine gQ_v1 (A := Fw W g) (om_153 hg_o hU_o  h848_o) (fun v2 s1_l h850_o => ?_)
    refine gQ_ite ?_ ?_
    · exact gQ_ret ⟨rfl, h850_o⟩
    · refine gQ_v1 (A := Fw W g) (om_158 hg_o hU_o rfl h850_o) (fun v5 s4_l h851_o => ?_)
      exact gQ_ret ⟨rfl, h851_o⟩
  · refine gQ_map ?_
    exact gQ_ret h848_o

theorem om_233 {W : Nat → Nat → Bool} {g s : gS} {a0 : Nat} {a1 : Int} {a2 : Int} (hg_o : RF g) (hU_o : ∀ a k, mss a k = true → W a k = true) (ea0_o : a0 = 217) (h_o : Fw W g s) : gQ (f_233 a0 a1 a2 s) (fun r => Fw W g r.2.2.2) := by
  subst ea0_o
  unfold f_233
  refine gQ_v1 (A := Fw W g) (om_162 hg_o hU_o rfl h_o) (fun v2 s1_l h852_o => ?_)
  refine gQ_ite ?_ ?_
  · unfold fb_233_14
    dsimp only
    refine gQ_ite ?_ ?_
    · refine gQ_v1 (A := Fw W g) (om_156 hg_o hU_o rfl (Fw_w h852_o rfl (hU_o 217 _ rfl))) (fun v6 s5 h853_o => ?_)
      refine gQ_v1 (A := Fw W g) (om_231 hg_o hU_o rfl h853_o) (fun v8 s7 h854_o => ?_)
      refine gQ_ite ?_ ?_
      · exact gQ_ret h854_o
      · unfold fb_233_45
        exact gQ_ret h854_o
    · unfold fb_233_45
      exact gQ_ret (Fw_w h852_o rfl (hU_o 217 _ rfl))
  · unfold fb_233_14
    dsimp only
    refine gQ_ite ?_ ?_
    · refine gQ_v1 (A := Fw W g) (om_156 hg_o hU_o rfl (Fw_w h852_o rfl (hU_o 217 _ rfl))) (fun v6 s5 h855_o => ?_)
      refine gQ_v1 (A := Fw W g) (om_231 hg_o hU_o rfl h855_o) (fun v8 s7 h856_o => ?_)
      refine gQ_ite ?_ ?_
      · exact gQ_ret h856_o
      · unfold fb_233_45
        exact gQ_ret h856_o
    · unfold fb_233_45
      exact gQ_ret (Fw_w h852_o rfl (hU_o 217 _ rfl))

theorem om_234 {W : Nat → Nat → Bool} {g s : gS} {a0 : Nat} {a1 : Int} {a2 : Int} (hg_o : RF g) (hU_o : ∀ a k, mss a k = true → W a k = true) (ea0_o : a0 = 217) (h_o : Fw W g s) : gQ (f_234 a0 a1 a2 s) (fun r => Fw W g r.2.2.2) := by
  subst ea0_o
  unfold f_234
  refine gQ_loop (fun y_l => y_l.1 = 217 ∧ Fw W g (y_l.2.2.2.2.2)) (fun y_l hy_o => ?_) ⟨rfl, h_o⟩
  obtain ⟨x857_o, x858_o, x859_o, x860_o, x861_o, x862_o⟩ := y_l
  obtain ⟨e864_o, h863_o⟩ := hy_o
  dsimp only at e864_o h863_o
  subst e864_o
  show gQ (sb_234_5 217 x858_o x859_o x860_o x861_o x862_o) _
  unfold sb_234_5
  refine gQ_ite ?_ ?_
  · refine gQ_v1 (A := Fw W g) (om_156 hg_o hU_o rfl h863_o) (fun v2 s1_l h865_o => ?_)
    refine gQ_v1 (A := Fw W g) (om_231 hg_o hU_o rfl h865_o) (fun v4_l s3_l h866_o => ?_)
    refine gQ_ite ?_ ?_
    · refine gQ_ite ?_ ?_
      · unfold fb_234_77
        exact gQ_ret ⟨rfl, h866_o⟩
      · refine gQ_ite ?_ ?_
        · refine gQ_v1 (A := Fw W g) (om_232 hg_o hU_o rfl h866_o) (fun v6 s5 h867_o => ?_)
          refine gQ_v1 (A := Fw W g) (om_232 hg_o hU_o rfl h867_o) (fun v8 s7 h868_o => ?_)
          refine gQ_ite ?_ ?_
          · unfold fb_234_77
            exact gQ_ret ⟨rfl, h868_o⟩
          · exact gQ_ret ⟨rfl, h868_o⟩
        · refine gQ_v1 (A := Fw W g) (om_154 hg_o hU_o  h866_o) (fun v10 s9 h869_o => ?_)
          refine gQ_v1 (A := Fw W g) (om_154 hg_o hU_o  h869_o) (fun v12 s11 h870_o => ?_)
          refine gQ_ite ?_ ?_
          · unfold fb_234_77
            exact gQ_ret ⟨rfl, h870_o⟩
          · exact gQ_ret ⟨rfl, h870_o⟩
    · exact gQ_ret ⟨rfl, h866_o⟩
  · refine gQ_map ?_
    exact gQ_ret h863_o

theorem om_235 {W : Nat → Nat → Bool} {g s : gS} {a0 : Nat} {a1 : Int} (hg_o : RF g) (hU_o : ∀ a k, mss a k = true → W a k = true) (ea0_o : a0 = 217) (h_o : Fw W g s) : gQ (f_235 a0 a1 s) (fun r => Fw W g r.2.2.2) := by
  subst ea0_o
  unfold f_235
  refine gQ_v1 (A := Fw W g) (om_162 hg_o hU_o rfl h_o) (fun v2 s1_l h871_o => ?_)
  refine gQ_ite ?_ ?_
  · unfold fb_235_14
    dsimp only
    refine gQ_ite ?_ ?_
    · exact gQ_ret (Fw_w h871_o rfl (hU_o 217 _ rfl))
    · refine gQ_v1 (A := Fw W g) (om_234 hg_o hU_o rfl (Fw_w h871_o rfl (hU_o 217 _ rfl))) (fun v6 s5 h872_o => ?_)
      exact gQ_ret h872_o
  · unfold fb_235_14
    dsimp only
    refine gQ_ite ?_ ?_
    · exact gQ_ret (Fw_w h871_o rfl (hU_o 217 _ rfl))
    · refine gQ_v1 (A := Fw W g) (om_234 hg_o hU_o rfl (Fw_w h871_o rfl (hU_o 217 _ rfl))) (fun v6 s5 h873_o => ?_)
      exact gQ_ret h873_o

theorem om_236 {W : Nat → Nat → Bool} {g s : gS} {a0 : Nat} {a1 : Int} {a2 : Int} (hg_o : RF g) (hU_o : ∀ a k, mss a k = true → W a k = true) (ea0_o : a0 = 217) (h_o : Fw W g s) : gQ (f_236 a0 a1 a2 s) (fun r => Fw W g r.2.2.2) := by
  subst ea0_o
  unfold f_236
  refine gQ_v1 (A := Fw W g) (om_162 hg_o hU_o rfl h_o) (fun v2 s1_l h874_o => ?_)
  refine gQ_ite ?_ ?_
  · unfold fb_236_14
    dsimp only
    refine gQ_ite ?_ ?_
    · exact gQ_ret (Fw_w h874_o rfl (hU_o 217 _ rfl))
    · refine gQ_v1 (A := Fw W g) (om_234 hg_o hU_o rfl (Fw_w h874_o rfl (hU_o 217 _ rfl))) (fun v6 s5 h875_o => ?_)
      refine gQ_ite ?_ ?_
      · unfold fb_236_50
        exact gQ_ret h875_o
      · refine gQ_ite ?_ ?_
        · unfold fb_236_50
          exact gQ_ret h875_o
        · refine gQ_v1 (A := Fw W g) (om_232 hg_o hU_o rfl h875_o) (fun v8 s7 h876_o => ?_)
          exact gQ_ret h876_o
  · unfold fb_236_14
    dsimp only
    refine gQ_ite ?_ ?_
    · exact gQ_ret (Fw_w h874_o rfl (hU_o 217 _ rfl))
    · refine gQ_v1 (A := Fw W g) (om_234 hg_o hU_o rfl (Fw_w h874_o rfl (hU_o 217 _ rfl))) (fun v6 s5 h877_o => ?_)
      refine gQ_ite ?_ ?_
      · unfold fb_236_50
        exact gQ_ret h877_o
      · refine gQ_ite ?_ ?_
        · unfold fb_236_50
          exact gQ_ret h877_o
        · refine gQ_v1 (A := Fw W g) (om_232 hg_o hU_o rfl h877_o) (fun v8 s7 h878_o => ?_)
          exact gQ_ret h878_o

theorem om_237 {W : Nat → Nat → Bool} {g s : gS} {a0 : Nat} {a1 : Int} (hg_o : RF g) (hU_o : ∀ a k, mss a k = true → W a k = true) (ea0_o : a0 = 217) (h_o : Fw W g s) : gQ (f_237 a0 a1 s) (fun r => Fw W g r.2.2.2) := by
  subst ea0_o
  unfold f_237
  refine gQ_v1 (A := Fw W g) (om_162 hg_o hU_o rfl h_o) (fun v2 s1_l h879_o => ?_)
  refine gQ_ite ?_ ?_
  · unfold fb_237_14
    dsimp only
    refine gQ_loop (fun y_l => y_l.1 = 217 ∧ Fw W g (y_l.2.2.2.2)) (fun y_l hy_o => ?_) ⟨rfl, (Fw_w h879_o rfl (hU_o 217 _ rfl))⟩
    obtain ⟨x880_o, x881_o, x882_o, x883_o, x884_o⟩ := y_l
    obtain ⟨e886_o, h885_o⟩ := hy_o
    dsimp only at e886_o h885_o
    subst e886_o
    show gQ (sb_237_21 217 x881_o x882_o x883_o x884_o) _
    unfold sb_237_21
    dsimp only
    refine gQ_ite ?_ ?_
    · refine gQ_ite ?_ ?_
      · refine gQ_v1 (A := Fw W g) (om_156 hg_o hU_o rfl h885_o) (fun v6 s5 h887_o => ?_)
        refine gQ_v1 (A := Fw W g) (om_212 hg_o hU_o rfl h887_o) (fun v8 s7 h888_o => ?_)
        refine gQ_ite ?_ ?_
        · exact gQ_ret ⟨rfl, h888_o⟩
        · exact gQ_ret ⟨rfl, h888_o⟩
      · refine gQ_map ?_
        exact gQ_ret h885_o
    · refine gQ_map ?_
      exact gQ_ret h885_o
  · unfold fb_237_14
    dsimp only
    refine gQ_loop (fun y_l => y_l.1 = 217 ∧ Fw W g (y_l.2.2.2.2)) (fun y_l hy_o => ?_) ⟨rfl, (Fw_w h879_o rfl (hU_o 217 _ rfl))⟩
    obtain ⟨x889_o, x890_o, x891_o, x892_o, x893_o⟩ := y_l
    obtain ⟨e895_o, h894_o⟩ := hy_o
    dsimp only at e895_o h894_o
    subst e895_o
    show gQ (sb_237_21 217 x890_o x891_o x892_o x893_o) _
    unfold sb_237_21
    dsimp only
    refine gQ_ite ?_ ?_
    · refine gQ_ite ?_ ?_
      · refine gQ_v1 (A := Fw W g) (om_156 hg_o hU_o rfl h894_o) (fun v6 s5 h896_o => ?_)
        refine gQ_v1 (A := Fw W g) (om_212 hg_o hU_o rfl h896_o) (fun v8 s7 h897_o => ?_)
        refine gQ_ite ?_ ?_
        · exact gQ_ret ⟨rfl, h897_o⟩
        · exact gQ_ret ⟨rfl, h897_o⟩
      · refine gQ_map ?_
        exact gQ_ret h894_o
    · refine gQ_map ?_
      exact gQ_ret h894_o

theorem om_238 {W : Nat → Nat → Bool} {g s : gS} {a0 : Nat} (hg_o : RF g) (hU_o : ∀ a k, mss a k = true → W a k = true) (ea0_o : a0 = 217) (h_o : Fw W g s) : gQ (f_238 a0 s) (fun r => Fw W g r.2.2.2) := by
  subst ea0_o
  unfold f_238
  dsimp only
  refine gQ_ite ?_ ?_
  · refine gQ_ite ?_ ?_
    · unfold fb_238_26
      unfold fb_238_27
      refine gQ_loop (fun y_l => y_l.1 = 217 ∧ Fw W g (y_l.2.2.2.2)) (fun y_l hy_o => ?_) ⟨rfl, (Fw_w h_o rfl (hU_o 217 _ rfl))⟩
      obtain ⟨x898_o, x899_o, x900_o, x901_o, x902_o⟩ := y_l
      obtain ⟨e904_o, h903_o⟩ := hy_o
      dsimp only at e904_o h903_o
      subst e904_o
      show gQ (sb_238_30 217 x899_o x900_o x901_o x902_o) _
      unfold sb_238_30
      refine gQ_ite ?_ ?_
      · refine gQ_ite ?_ ?_
        · refine gQ_map ?_
          unfold fb_238_76
          refine gQ_ite ?_ ?_
          · exact gQ_ret h903_o
          · refine gQ_loop (fun y_l => y_l.1 = 217 ∧ Fw W g (y_l.2.2.2.2)) (fun y_l hy_o => ?_) ⟨rfl, h903_o⟩
            obtain ⟨x905_o, x906_o, x907_o, x908_o, x909_o⟩ := y_l
            obtain ⟨e911_o, h910_o⟩ := hy_o
            dsimp only at e911_o h910_o
            subst e911_o
            show gQ (sb_238_87 217 x906_o x907_o x908_o x909_o) _
            unfold sb_238_87
            dsimp only
            refine gQ_ite ?_ ?_
            · refine gQ_chk2 (fun ha912_o hb913_o => ?_)
              refine gQ_bool ?_
              refine gQ_loop (fun y_l => y_l.1 = 217 ∧ Fw W g (y_l.2.2.2.2.2)) (fun y_l hy_o => ?_) ⟨rfl, (Fw_w h910_o (fr_r h910_o rfl (rr_217_23 hg_o)) (hU_o 229 _ rfl))⟩
              obtain ⟨x914_o, x915_o, x916_o, x917_o, x918_o, x919_o⟩ := y_l
              obtain ⟨e921_o, h920_o⟩ := hy_o
              dsimp only at e921_o h920_o
              subst e921_o
              show gQ (sb_238_105 217 x915_o x916_o x917_o x918_o x919_o) _
              unfold sb_238_105
              refine gQ_ite ?_ ?_
              · refine gQ_chk2 (fun ha922_o hb923_o => ?_)
                refine gQ_ite ?_ ?_
                · refine gQ_map ?_
                  unfold fb_238_173
                  refine gQ_chk2 (fun ha924_o hb925_o => ?_)
                  refine gQ_ite ?_ ?_
                  · exact gQ_ret ⟨rfl, h920_o⟩
                  · exact gQ_ret ⟨rfl, h920_o⟩
                · refine gQ_chk2 (fun ha926_o hb927_o => ?_)
                  refine gQ_v1 (A := Fw W g) (om_212 hg_o hU_o rfl h920_o) (fun v4_l s3_l h928_o => ?_)
                  refine gQ_chk2 (fun ha929_o hb930_o => ?_)
                  refine gQ_ite ?_ ?_
                  · unfold fb_238_158
                    dsimp only
                    refine gQ_ite ?_ ?_
                    · refine gQ_chk2 (fun ha931_o hb932_o => ?_)
                      refine gQ_bool ?_
                      exact gQ_ret ⟨rfl, (Fw_w h928_o (fr_r h920_o rfl (rr_217_23 hg_o)) (hU_o 229 _ rfl))⟩
                    · refine gQ_chk2 (fun ha933_o hb934_o => ?_)
                      refine gQ_bool ?_
                      exact gQ_ret ⟨rfl, (Fw_w h928_o (fr_r h920_o rfl (rr_217_23 hg_o)) (hU_o 229 _ rfl))⟩
                  · unfold fb_238_158
                    dsimp only
                    refine gQ_ite ?_ ?_
                    · refine gQ_chk2 (fun ha935_o hb936_o => ?_)
                      refine gQ_bool ?_
                      exact gQ_ret ⟨rfl, (Fw_w h928_o (fr_r h920_o rfl (rr_217_23 hg_o)) (hU_o 229 _ rfl))⟩
                    · refine gQ_chk2 (fun ha937_o hb938_o => ?_)
                      refine gQ_bool ?_
                      exact gQ_ret ⟨rfl, (Fw_w h928_o (fr_r h920_o rfl (rr_217_23 hg_o)) (hU_o 229 _ rfl))⟩
              · refine gQ_map ?_
                unfold fb_238_173
                refine gQ_chk2 (fun ha939_o hb940_o => ?_)
                refine gQ_ite ?_ ?_
                · exact gQ_ret ⟨rfl, h920_o⟩
                · exact gQ_ret ⟨rfl, h920_o⟩
            · refine gQ_map ?_
              exact gQ_ret h910_o
        · refine gQ_chk2 (fun ha941_o hb942_o => ?_)
          refine gQ_ite ?_ ?_
          · unfold fb_238_61
            refine gQ_ite ?_ ?_
            · exact gQ_ret ⟨rfl, h903_o⟩
            · exact gQ_ret ⟨rfl, h903_o⟩
          · unfold fb_238_61
            refine gQ_ite ?_ ?_
            · exact gQ_ret ⟨rfl, h903_o⟩
            · exact gQ_ret ⟨rfl, h903_o⟩
      · refine gQ_map ?_
        unfold fb_238_76
        refine gQ_ite ?_ ?_
        · exact gQ_ret h903_o
        · refine gQ_loop (fun y_l => y_l.1 = 217 ∧ Fw W g (y_l.2.2.2.2)) (fun y_l hy_o => ?_) ⟨rfl, h903_o⟩
          obtain ⟨x943_o, x944_o, x945_o, x946_o, x947_o⟩ := y_l
          obtain ⟨e949_o, h948_o⟩ := hy_o
          dsimp only at e949_o h948_o
          subst e949_o
          show gQ (sb_238_87 217 x944_o x945_o x946_o x947_o) _
          unfold sb_238_87
          dsimp only
          refine gQ_ite ?_ ?_
          · refine gQ_chk2 (fun ha950_o hb951_o => ?_)
            refine gQ_bool ?_
            refine gQ_loop (fun y_l => y_l.1 = 217 ∧ Fw W g (y_l.2.2.2.2.2)) (fun y_l hy_o => ?_) ⟨rfl, (Fw_w h948_o (fr_r h948_o rfl (rr_217_23 hg_o)) (hU_o 229 _ rfl))⟩
            obtain ⟨x952_o, x953_o, x954_o, x955_o, x956_o, x957_o⟩ := y_l
            obtain ⟨e959_o, h958_o⟩ := hy_o
            dsimp only at e959_o h958_o
            subst e959_o
            show gQ (sb_238_105 217 x953_o x954_o x955_o x956_o x957_o) _
            unfold sb_238_105
            refine gQ_ite ?_ ?_
            · refine gQ_chk2 (fun ha960_o hb961_o => ?_)
              refine gQ_ite ?_ ?_
              · refine gQ_map ?_
                unfold fb_238_173
                refine gQ_chk2 (fun ha962_o hb963_o => ?_)
                refine gQ_ite ?_ ?_
                · exact gQ_ret ⟨rfl, h958_o⟩
                · exact gQ_ret ⟨rfl, h958_o⟩
              · refine gQ_chk2 (fun ha964_o hb965_o => ?_)
                refine gQ_v1 (A := Fw W g) (om_212 hg_o hU_o rfl h958_o) (fun v4_l s3_l h966_o => ?_)
                refine gQ_chk2 (fun ha967_o hb968_o => ?_)
                refine gQ_ite ?_ ?_
                · unfold fb_238_158
                  dsimp only
                  refine gQ_ite ?_ ?_
                  · refine gQ_chk2 (fun ha969_o hb970_o => ?_)
                    refine gQ_bool ?_
                    exact gQ_ret ⟨rfl, (Fw_w h966_o (fr_r h958_o rfl (rr_217_23 hg_o)) (hU_o 229 _ rfl))⟩
                  · refine gQ_chk2 (fun ha971_o hb972_o => ?_)
                    refine gQ_bool ?_
                    exact gQ_ret ⟨rfl, (Fw_w h966_o (fr_r h958_o rfl (rr_217_23 hg_o)) (hU_o 229 _ rfl))⟩
                · unfold fb_238_158
                  dsimp only
                  refine gQ_ite ?_ ?_
                  · refine gQ_chk2 (fun ha973_o hb974_o => ?_)
                    refine gQ_bool ?_
                    exact gQ_ret ⟨rfl, (Fw_w h966_o (fr_r h958_o rfl (rr_217_23 hg_o)) (hU_o 229 _ rfl))⟩
                  · refine gQ_chk2 (fun ha975_o hb976_o => ?_)
                    refine gQ_bool ?_
                    exact gQ_ret ⟨rfl, (Fw_w h966_o (fr_r h958_o rfl (rr_217_23 hg_o)) (hU_o 229 _ rfl))⟩
            · refine gQ_map ?_
              unfold fb_238_173
              refine gQ_chk2 (fun ha977_o hb978_o => ?_)
              refine gQ_ite ?_ ?_
              · exact gQ_ret ⟨rfl, h958_o⟩
              · exact gQ_ret ⟨rfl, h958_o⟩
          · refine gQ_map ?_
            exact gQ_ret h948_o
    · unfold fb_238_27
      refine gQ_loop (fun y_l => y_l.1 = 217 ∧ Fw W g (y_l.2.2.2.2)) (fun y_l hy_o => ?_) ⟨rfl, (Fw_w h_o rfl (hU_o 217 _ rfl))⟩
      obtain ⟨x979_o, x980_o, x981_o, x982_o, x983_o⟩ := y_l
      obtain ⟨e985_o, h984_o⟩ := hy_o
      dsimp only at e985_o h984_o
      subst e985_o
      show gQ (sb_238_30 217 x980_o x981_o x982_o x983_o) _
      unfold sb_238_30
      refine gQ_ite ?_ ?_
      · refine gQ_ite ?_ ?_
        · refine gQ_map ?_
          unfold fb_238_76
          refine gQ_ite ?_ ?_
          · exact gQ_ret h984_o
          · refine gQ_loop (fun y_l => y_l.1 = 217 ∧ Fw W g (y_l.2.2.2.2)) (fun y_l hy_o => ?_) ⟨rfl, h984_o⟩
            obtain ⟨x986_o, x987_o, x988_o, x989_o, x990_o⟩ := y_l
            obtain ⟨e992_o, h991_o⟩ := hy_o
            dsimp only at e992_o h991_o
            subst e992_o
            show gQ (sb_238_87 217 x987_o x988_o x989_o x990_o) _
            unfold sb_238_87
            dsimp only
            refine gQ_ite ?_ ?_
            · refine gQ_chk2 (fun ha993_o hb994_o => ?_)
              refine gQ_bool ?_
              refine gQ_loop (fun y_l => y_l.1 = 217 ∧ Fw W g (y_l.2.2.2.2.2)) (fun y_l hy_o => ?_) ⟨rfl, (Fw_w h991_o (fr_r h991_o rfl (rr_217_23 hg_o)) (hU_o 229 _ rfl))⟩
              obtain ⟨x995_o, x996_o, x997_o, x998_o, x999_o, x1000_o⟩ := y_l
              obtain ⟨e1002_o, h1001_o⟩ := hy_o
              dsimp only at e1002_o h1001_o
              subst e1002_o
              show gQ (sb_238_105 217 x996_o x997_o x998_o x999_o x1000_o) _
              unfold sb_238_105
              refine gQ_ite ?_ ?_
              · refine gQ_chk2 (fun ha1003_o hb1004_o => ?_)
                refine gQ_ite ?_ ?_
                · refine gQ_map ?_
                  unfold fb_238_173
                  refine gQ_chk2 (fun ha1005_o hb1006_o => ?_)
                  refine gQ_ite ?_ ?_
                  · exact gQ_ret ⟨rfl, h1001_o⟩
                  · exact gQ_ret ⟨rfl, h1001_o⟩
                · refine gQ_chk2 (fun ha1007_o hb1008_o => ?_)
                  refine gQ_v1 (A := Fw W g) (om_212 hg_o hU_o rfl h1001_o) (fun v4_l s3_l h1009_o => ?_)
                  refine gQ_chk2 (fun ha1010_o hb1011_o => ?_)
                  refine gQ_ite ?_ ?_
                  · unfold fb_238_158
                    dsimp only
                    refine gQ_ite ?_ ?_
                    · refine gQ_chk2 (fun ha1012_o hb1013_o => ?_)
                      refine gQ_bool ?_
                      exact gQ_ret ⟨rfl, (Fw_w h1009_o (fr_r h1001_o rfl (rr_217_23 hg_o)) (hU_o 229 _ rfl))⟩
                    · refine gQ_chk2 (fun ha1014_o hb1015_o => ?_)
                      refine gQ_bool ?_
                      exact gQ_ret ⟨rfl, (Fw_w h1009_o (fr_r h1001_o rfl (rr_217_23 hg_o)) (hU_o 229 _ rfl))⟩
                  · unfold fb_238_158
                    dsimp only
                    refine gQ_ite ?_ ?_
                    · refine gQ_chk2 (fun ha1016_o hb1017_o => ?_)
                      refine gQ_bool ?_
                      exact gQ_ret ⟨rfl, (Fw_w h1009_o (fr_r h1001_o rfl (rr_217_23 hg_o)) (hU_o 229 _ rfl))⟩
                    · refine gQ_chk2 (fun ha1018_o hb1019_o => ?_)
                      refine gQ_bool ?_
                      exact gQ_ret ⟨rfl, (Fw_w h1009_o (fr_r h1001_o rfl (rr_217_23 hg_o)) (hU_o 229 _ rfl))⟩
              · refine gQ_map ?_
                unfold fb_238_173
                refine gQ_chk2 (fun ha1020_o hb1021_o => ?_)
                refine gQ_ite ?_ ?_
                · exact gQ_ret ⟨rfl, h1001_o⟩
                · exact gQ_ret ⟨rfl, h1001_o⟩
            · refine gQ_map ?_
              exact gQ_ret h991_o
        · refine gQ_chk2 (fun ha1022_o hb1023_o => ?_)
          refine gQ_ite ?_ ?_
          · unfold fb_238_61
            refine gQ_ite ?_ ?_
            · exact gQ_ret ⟨rfl, h984_o⟩
            · exact gQ_ret ⟨rfl, h984_o⟩
          · unfold fb_238_61
            refine gQ_ite ?_ ?_
            · exact gQ_ret ⟨rfl, h984_o⟩
            · exact gQ_ret ⟨rfl, h984_o⟩
      · refine gQ_map ?_
        unfold fb_238_76
        refine gQ_ite ?_ ?_
        · exact gQ_ret h984_o
        · refine gQ_loop (fun y_l => y_l.1 = 217 ∧ Fw W g (y_l.2.2.2.2)) (fun y_l hy_o => ?_) ⟨rfl, h984_o⟩
          obtain ⟨x1024_o, x1025_o, x1026_o, x1027_o, x1028_o⟩ := y_l
          obtain ⟨e1030_o, h1029_o⟩ := hy_o
          dsimp only at e1030_o h1029_o
          subst e1030_o
          show gQ (sb_238_87 217 x1025_o x1026_o x1027_o x1028_o) _
          unfold sb_238_87
          dsimp only
          refine gQ_ite ?_ ?_
          · refine gQ_chk2 (fun ha1031_o hb1032_o => ?_)
            refine gQ_bool ?_
            refine gQ_loop (fun y_l => y_l.1 = 217 ∧ Fw W g (y_l.2.2.2.2.2)) (fun y_l hy_o => ?_) ⟨rfl, (Fw_w h1029_o (fr_r h1029_o rfl (rr_217_23 hg_o)) (hU_o 229 _ rfl))⟩
            obtain ⟨x1033_o, x1034_o, x1035_o, x1036_o, x1037_o, x1038_o⟩ := y_l
            obtain ⟨e1040_o, h1039_o⟩ := hy_o
            dsimp only at e1040_o h1039_o
            subst e1040_o
            show gQ (sb_238_105 217 x1034_o x1035_o x1036_o x1037_o x1038_o) _
            unfold sb_238_105
            refine gQ_ite ?_ ?_
            · refine gQ_chk2 (fun ha1041_o hb1042_o => ?_)
              refine gQ_ite ?_ ?_
              · refine gQ_map ?_
                unfold fb_238_173
                refine gQ_chk2 (fun ha1043_o hb1044_o => ?_)
                refine gQ_ite ?_ ?_
                · exact gQ_ret ⟨rfl, h1039_o⟩
                · exact gQ_ret ⟨rfl, h1039_o⟩
              · refine gQ_chk2 (fun ha1045_o hb1046_o => ?_)
                refine gQ_v1 (A := Fw W g) (om_212 hg_o hU_o rfl h1039_o) (fun v4_l s3_l h1047_o => ?_)
                refine gQ_chk2 (fun ha1048_o hb1049_o => ?_)
                refine gQ_ite ?_ ?_
                · unfold fb_238_158
                  dsimp only
                  refine gQ_ite ?_ ?_
                  · refine gQ_chk2 (fun ha1050_o hb1051_o => ?_)
                    refine gQ_bool ?_
                    exact gQ_ret ⟨rfl, (Fw_w h1047_o (fr_r h1039_o rfl (rr_217_23 hg_o)) (hU_o 229 _ rfl))⟩
                  · refine gQ_chk2 (fun ha1052_o hb1053_o => ?_)
                    refine gQ_bool ?_
                    exact gQ_ret ⟨rfl, (Fw_w h1047_o (fr_r h1039_o rfl (rr_217_23 hg_o)) (hU_o 229 _ rfl))⟩
                · unfold fb_238_158
                  dsimp only
                  refine gQ_ite ?_ ?_
                  · refine gQ_chk2 (fun ha1054_o hb1055_o => ?_)
                    refine gQ_bool ?_
                    exact gQ_ret ⟨rfl, (Fw_w h1047_o (fr_r h1039_o rfl (rr_217_23 hg_o)) (hU_o 229 _ rfl))⟩
                  · refine gQ_chk2 (fun ha1056_o hb1057_o => ?_)
                    refine gQ_bool ?_
                    exact gQ_ret ⟨rfl, (Fw_w h1047_o (fr_r h1039_o rfl (rr_217_23 hg_o)) (hU_o 229 _ rfl))⟩
            · refine gQ_map ?_
              unfold fb_238_173
              refine gQ_chk2 (fun ha1058_o hb1059_o => ?_)
              refine gQ_ite ?_ ?_
              · exact gQ_ret ⟨rfl, h1039_o⟩
              · exact gQ_ret ⟨rfl, h1039_o⟩
          · refine gQ_map ?_
            exact gQ_ret h1029_o
  · unfold fb_238_26
    unfold fb_238_27
    refine gQ_loop (fun y_l => y_l.1 = 217 ∧ Fw W g (y_l.2.2.2.2)) (fun y_l hy_o => ?_) ⟨rfl, (Fw_w h_o rfl (hU_o 217 _ rfl))⟩
    obtain ⟨x1060_o, x1061_o, x1062_o, x1063_o, x1064_o⟩ := y_l
    obtain ⟨e1066_o, h1065_o⟩ := hy_o
    dsimp only at e1066_o h1065_o
    subst e1066_o
    show gQ (sb_238_30 217 x1061_o x1062_o x1063_o x1064_o) _
    unfold sb_238_30
    refine gQ_ite ?_ ?_
    · refine gQ_ite ?_ ?_
      · refine gQ_map ?_
        unfold fb_238_76
        refine gQ_ite ?_ ?_
        · exact gQ_ret h1065_o
        · refine gQ_loop (fun y_l => y_l.1 = 217 ∧ Fw W g (y_l.2.2.2.2)) (fun y_l hy_o => ?_) ⟨rfl, h1065_o⟩
          obtain ⟨x1067_o, x1068_o, x1069_o, x1070_o, x1071_o⟩ := y_l
          obtain ⟨e1073_o, h1072_o⟩ := hy_o
          dsimp only at e1073_o h1072_o
          subst e1073_o
          show gQ (sb_238_87 217 x1068_o x1069_o x1070_o x1071_o) _
          unfold sb_238_87
          dsimp only
          refine gQ_ite ?_ ?_
          · refine gQ_chk2 (fun ha1074_o hb1075_o => ?_)
            refine gQ_bool ?_
            refine gQ_loop (fun y_l => y_l.1 = 217 ∧ Fw W g (y_l.2.2.2.2.2)) (fun y_l hy_o => ?_) ⟨rfl, (Fw_w h1072_o (fr_r h1072_o rfl (rr_217_23 hg_o)) (hU_o 229 _ rfl))⟩
            obtain ⟨x1076_o, x1077_o, x1078_o, x1079_o, x1080_o, x1081_o⟩ := y_l
            obtain ⟨e1083_o, h1082_o⟩ := hy_o
            dsimp only at e1083_o h1082_o
            subst e1083_o
            show gQ (sb_238_105 217 x1077_o x1078_o x1079_o x1080_o x1081_o) _
            unfold sb_238_105
            refine gQ_ite ?_ ?_
            · refine gQ_chk2 (fun ha1084_o hb1085_o => ?_)
              refine gQ_ite ?_ ?_
              · refine gQ_map ?_
                unfold fb_238_173
                refine gQ_chk2 (fun ha1086_o hb1087_o => ?_)
                refine gQ_ite ?_ ?_
                · exact gQ_ret ⟨rfl, h1082_o⟩
                · exact gQ_ret ⟨rfl, h1082_o⟩
              · refine gQ_chk2 (fun ha1088_o hb1089_o => ?_)
                refine gQ_v1 (A := Fw W g) (om_212 hg_o hU_o rfl h1082_o) (fun v4_l s3_l h1090_o => ?_)
                refine gQ_chk2 (fun ha1091_o hb1092_o => ?_)
                refine gQ_ite ?_ ?_
                · unfold fb_238_158
                  dsimp only
                  refine gQ_ite ?_ ?_
                  · refine gQ_chk2 (fun ha1093_o hb1094_o => ?_)
                    refine gQ_bool ?_
                    exact gQ_ret ⟨rfl, (Fw_w h1090_o (fr_r h1082_o rfl (rr_217_23 hg_o)) (hU_o 229 _ rfl))⟩
                  · refine gQ_chk2 (fun ha1095_o hb1096_o => ?_)
                    refine gQ_bool ?_
                    exact gQ_ret ⟨rfl, (Fw_w h1090_o (fr_r h1082_o rfl (rr_217_23 hg_o)) (hU_o 229 _ rfl))⟩
                · unfold fb_238_158
                  dsimp only
                  refine gQ_ite ?_ ?_
                  · refine gQ_chk2 (fun ha1097_o hb1098_o => ?_)
                    refine gQ_bool ?_
                    exact gQ_ret ⟨rfl, (Fw_w h1090_o (fr_r h1082_o rfl (rr_217_23 hg_o)) (hU_o 229 _ rfl))⟩
                  · refine gQ_chk2 (fun ha1099_o hb1100_o => ?_)
                    refine gQ_bool ?_
                    exact gQ_ret ⟨rfl, (Fw_w h1090_o (fr_r h1082_o rfl (rr_217_23 hg_o)) (hU_o 229 _ rfl))⟩
            · refine gQ_map ?_
              unfold fb_238_173
              refine gQ_chk2 (fun ha1101_o hb1102_o => ?_)
              refine gQ_ite ?_ ?_
              · exact gQ_ret ⟨rfl, h1082_o⟩
              · exact gQ_ret ⟨rfl, h1082_o⟩
          · refine gQ_map ?_
            exact gQ_ret h1072_o
      · refine gQ_chk2 (fun ha1103_o hb1104_o => ?_)
        refine gQ_ite ?_ ?_
        · unfold fb_238_61
          refine gQ_ite ?_ ?_
          · exact gQ_ret ⟨rfl, h1065_o⟩
          · exact gQ_ret ⟨rfl, h1065_o⟩
        · unfold fb_238_61
          refine gQ_ite ?_ ?_
          · exact gQ_ret ⟨rfl, h1065_o⟩
          · exact gQ_ret ⟨rfl, h1065_o⟩
    · refine gQ_map ?_
      unfold fb_238_76
      refine gQ_ite ?_ ?_
      · exact gQ_ret h1065_o
      · refine gQ_loop (fun y_l => y_l.1 = 217 ∧ Fw W g (y_l.2.2.2.2)) (fun y_l hy_o => ?_) ⟨rfl, h1065_o⟩
        obtain ⟨x1105_o, x1106_o, x1107_o, x1108_o, x1109_o⟩ := y_l
        obtain ⟨e1111_o, h1110_o⟩ := hy_o
        dsimp only at e1111_o h1110_o
        subst e1111_o
        show gQ (sb_238_87 217 x1106_o x1107_o x1108_o x1109_o) _
        unfold sb_238_87
        dsimp only
        refine gQ_ite ?_ ?_
        · refine gQ_chk2 (fun ha1112_o hb1113_o => ?_)
          refine gQ_bool ?_
          refine gQ_loop (fun y_l => y_l.1 = 217 ∧ Fw W g (y_l.2.2.2.2.2)) (fun y_l hy_o => ?_) ⟨rfl, (Fw_w h1110_o (fr_r h1110_o rfl (rr_217_23 hg_o)) (hU_o 229 _ rfl))⟩
          obtain ⟨x1114_o, x1115_o, x1116_o, x1117_o, x1118_o, x1119_o⟩ := y_l
          obtain ⟨e1121_o, h1120_o⟩ := hy_o
          dsimp only at e1121_o h1120_o
          subst e1121_o
          show gQ (sb_238_105 217 x1115_o x1116_o x1117_o x1118_o x1119_o) _
          unfold sb_238_105
          refine gQ_ite ?_ ?_
          · refine gQ_chk2 (fun ha1122_o hb1123_o => ?_)
            refine gQ_ite ?_ ?_
            · refine gQ_map ?_
              unfold fb_238_173
              refine gQ_chk2 (fun ha1124_o hb1125_o => ?_)
              refine gQ_ite ?_ ?_
              · exact gQ_ret ⟨rfl, h1120_o⟩
              · exact gQ_ret ⟨rfl, h1120_o⟩
            · refine gQ_chk2 (fun ha1126_o hb1127_o => ?_)
              refine gQ_v1 (A := Fw W g) (om_212 hg_o hU_o rfl h1120_o) (fun v4_l s3_l h1128_o => ?_)
              refine gQ_chk2 (fun ha1129_o hb1130_o => ?_)
              refine gQ_ite ?_ ?_
              · unfold fb_238_158
                dsimp only
                refine gQ_ite ?_ ?_
                · refine gQ_chk2 (fun ha1131_o hb1132_o => ?_)
                  refine gQ_bool ?_
                  exact gQ_ret ⟨rfl, (Fw_w h1128_o (fr_r h1120_o rfl (rr_217_23 hg_o)) (hU_o 229 _ rfl))⟩
                · refine gQ_chk2 (fun ha1133_o hb1134_o => ?_)
                  refine gQ_bool ?_
                  exact gQ_ret ⟨rfl, (Fw_w h1128_o (fr_r h1120_o rfl (rr_217_23 hg_o)) (hU_o 229 _ rfl))⟩
              · unfold fb_238_158
                dsimp only
                refine gQ_ite ?_ ?_
                · refine gQ_chk2 (fun ha1135_o hb1136_o => ?_)
                  refine gQ_bool ?_
                  exact gQ_ret ⟨rfl, (Fw_w h1128_o (fr_r h1120_o rfl (rr_217_23 hg_o)) (hU_o 229 _ rfl))⟩
                · refine gQ_chk2 (fun ha1137_o hb1138_o => ?_)
                  refine gQ_bool ?_
                  exact gQ_ret ⟨rfl, (Fw_w h1128_o (fr_r h1120_o rfl (rr_217_23 hg_o)) (hU_o 229 _ rfl))⟩
          · refine gQ_map ?_
            unfold fb_238_173
            refine gQ_chk2 (fun ha1139_o hb1140_o => ?_)
            refine gQ_ite ?_ ?_
            · exact gQ_ret ⟨rfl, h1120_o⟩
            · exact gQ_ret ⟨rfl, h1120_o⟩
        · refine gQ_map ?_
          exact gQ_ret h1110_o

theorem om_239 {W : Nat → Nat → Bool} {g s : gS} {a0 : Nat} {a1 : Int} (hg_o : RF g) (hU_o : ∀ a k, mss a k = true → W a k = true) (ea0_o : a0 = 217) (h_o : Fw W g s) : gQ (f_239 a0 a1 s) (fun r => Fw W g r.2.2.2) := by
  subst ea0_o
  unfold f_239
  refine gQ_v1 (A := Fw W g) (om_238 hg_o hU_o rfl h_o) (fun v2 s1_l h1141_o => ?_)
  refine gQ_ite ?_ ?_
  · unfold fb_239_16
    dsimp only
    refine gQ_ite ?_ ?_
    · unfold fb_239_30
      refine gQ_ite ?_ ?_
      · exact gQ_ret (Fw_w h1141_o rfl (hU_o 217 _ rfl))
      · exact gQ_ret (Fw_w h1141_o rfl (hU_o 217 _ rfl))
    · refine gQ_ite ?_ ?_
      · unfold fb_239_30
        refine gQ_ite ?_ ?_
        · exact gQ_ret (Fw_w h1141_o rfl (hU_o 217 _ rfl))
        · exact gQ_ret (Fw_w h1141_o rfl (hU_o 217 _ rfl))
      · refine gQ_ite ?_ ?_
        · unfold fb_239_53
          refine gQ_loop (fun y_l => y_l.1 = 217 ∧ Fw W g (y_l.2.2.2)) (fun y_l hy_o => ?_) ⟨rfl, (Fw_w h1141_o rfl (hU_o 217 _ rfl))⟩
          obtain ⟨x1142_o, x1143_o, x1144_o, x1145_o⟩ := y_l
          obtain ⟨e1147_o, h1146_o⟩ := hy_o
          dsimp only at e1147_o h1146_o
          subst e1147_o
          show gQ (sb_239_57 217 x1143_o x1144_o x1145_o) _
          unfold sb_239_57
          refine gQ_ite ?_ ?_
          · refine gQ_chk2 (fun ha1148_o hb1149_o => ?_)
            refine gQ_ite ?_ ?_
            · exact gQ_ret ⟨rfl, h1146_o⟩
            · exact gQ_ret ⟨rfl, h1146_o⟩
          · refine gQ_map ?_
            exact gQ_ret h1146_o
        · unfold fb_239_53
          refine gQ_loop (fun y_l => y_l.1 = 217 ∧ Fw W g (y_l.2.2.2)) (fun y_l hy_o => ?_) ⟨rfl, (Fw_w h1141_o rfl (hU_o 217 _ rfl))⟩
          obtain ⟨x1150_o, x1151_o, x1152_o, x1153_o⟩ := y_l
          obtain ⟨e1155_o, h1154_o⟩ := hy_o
          dsimp only at e1155_o h1154_o
          subst e1155_o
          show gQ (sb_239_57 217 x1151_o x1152_o x1153_o) _
          unfold sb_239_57
          refine gQ_ite ?_ ?_
          · refine gQ_chk2 (fun ha1156_o hb1157_o => ?_)
            refine gQ_ite ?_ ?_
            · exact gQ_ret ⟨rfl, h1154_o⟩
            · exact gQ_ret ⟨rfl, h1154_o⟩
          · refine gQ_map ?_
            exact gQ_ret h1154_o
  · unfold fb_239_16
    dsimp only
    refine gQ_ite ?_ ?_
    · unfold fb_239_30
      refine gQ_ite ?_ ?_
      · exact gQ_ret (Fw_w h1141_o rfl (hU_o 217 _ rfl))
      · exact gQ_ret (Fw_w h1141_o rfl (hU_o 217 _ rfl))
    · refine gQ_ite ?_ ?_
      · unfold fb_239_30
        refine gQ_ite ?_ ?_
        · exact gQ_ret (Fw_w h1141_o rfl (hU_o 217 _ rfl))
        · exact gQ_ret (Fw_w h1141_o rfl (hU_o 217 _ rfl))
      · refine gQ_ite ?_ ?_
        · unfold fb_239_53
          refine gQ_loop (fun y_l => y_l.1 = 217 ∧ Fw W g (y_l.2.2.2)) (fun y_l hy_o => ?_) ⟨rfl, (Fw_w h1141_o rfl (hU_o 217 _ rfl))⟩
          obtain ⟨x1158_o, x1159_o, x1160_o, x1161_o⟩ := y_l
          obtain ⟨e1163_o, h1162_o⟩ := hy_o
          dsimp only at e1163_o h1162_o
          subst e1163_o
          show gQ (sb_239_57 217 x1159_o x1160_o x1161_o) _
          unfold sb_239_57
          refine gQ_ite ?_ ?_
          · refine gQ_chk2 (fun ha1164_o hb1165_o => ?_)
            refine gQ_ite ?_ ?_
            · exact gQ_ret ⟨rfl, h1162_o⟩
            · exact gQ_ret ⟨rfl, h1162_o⟩
          · refine gQ_map ?_
            exact gQ_ret h1162_o
        · unfold fb_239_53
          refine gQ_loop (fun y_l => y_l.1 = 217 ∧ Fw W g (y_l.2.2.2)) (fun y_l hy_o => ?_) ⟨rfl, (Fw_w h1141_o rfl (hU_o 217 _ rfl))⟩
          obtain ⟨x1166_o, x1167_o, x1168_o, x1169_o⟩ := y_l
          obtain ⟨e1171_o, h1170_o⟩ := hy_o
          dsimp only at e1171_o h1170_o
          subst e1171_o
          show gQ (sb_239_57 217 x1167_o x1168_o x1169_o) _
          unfold sb_239_57
          refine gQ_ite ?_ ?_
          · refine gQ_chk2 (fun ha1172_o hb1173_o => ?_)
            refine gQ_ite ?_ ?_
            · exact gQ_ret ⟨rfl, h1170_o⟩
            · exact gQ_ret ⟨rfl, h1170_o⟩
          · refine gQ_map ?_
            exact gQ_ret h1170_o

theorem om_240 {W : Nat → Nat → Bool} {g s : gS} {a0 : Nat} (hg_o : RF g) (hU_o : ∀ a k, mss a k = true → W a k = true) (ea0_o : a0 = 217) (h_o : Fw W g s) : gQ (f_240 a0 s) (fun r => Fw W g r.2.2.2) := by
  subst ea0_o
  unfold f_240
  refine gQ_v1 (A := Fw W g) (om_238 hg_o hU_o rfl h_o) (fun v2 s1_l h1174_o => ?_)
  refine gQ_ite ?_ ?_
  · unfold fb_240_16
    dsimp only
    refine gQ_ite ?_ ?_
    · exact gQ_ret (Fw_w h1174_o rfl (hU_o 217 _ rfl))
    · refine gQ_loop (fun y_l => y_l.1 = 217 ∧ Fw W g (y_l.2.2.2.2.2)) (fun y_l hy_o => ?_) ⟨rfl, (Fw_w h1174_o rfl (hU_o 217 _ rfl))⟩
      obtain ⟨x1175_o, x1176_o, x1177_o, x1178_o, x1179_o, x1180_o⟩ := y_l
      obtain ⟨e1182_o, h1181_o⟩ := hy_o
      dsimp only at e1182_o h1181_o
      subst e1182_o
      show gQ (sb_240_37 217 x1176_o x1177_o x1178_o x1179_o x1180_o) _
      unfold sb_240_37
      refine gQ_ite ?_ ?_
      · refine gQ_ite ?_ ?_
        · refine gQ_loop (fun y_l => y_l.1 = 217 ∧ Fw W g (y_l.2.2.2.2.2.2.2)) (fun y_l hy_o => ?_) ⟨rfl, h1181_o⟩
          obtain ⟨x1183_o, x1184_o, x1185_o, x1186_o, x1187_o, x1188_o, x1189_o, x1190_o⟩ := y_l
          obtain ⟨e1192_o, h1191_o⟩ := hy_o
          dsimp only at e1192_o h1191_o
          subst e1192_o
          show gQ (sb_240_59 217 x1184_o x1185_o x1186_o x1187_o x1188_o x1189_o x1190_o) _
          unfold sb_240_59
          refine gQ_ite ?_ ?_
          · refine gQ_chk2 (fun ha1193_o hb1194_o => ?_)
            refine gQ_ite ?_ ?_
            · unfold fb_240_93
              exact gQ_ret ⟨rfl, h1191_o⟩
            · refine gQ_v1 (A := Fw W g) (om_212 hg_o hU_o rfl h1191_o) (fun v5 s4_l h1195_o => ?_)
              refine gQ_ite ?_ ?_
              · unfold fb_240_93
                exact gQ_ret ⟨rfl, h1195_o⟩
              · exact gQ_ret ⟨rfl, h1195_o⟩
          · refine gQ_map ?_
            refine gQ_v1 (A := Fw W g) (om_152 hg_o hU_o  h1191_o) (fun v8 s7 h1196_o => ?_)
            refine gQ_ite ?_ ?_
            · refine gQ_v1 (A := Fw W g) (om_152 hg_o hU_o  h1196_o) (fun v10 s9 h1197_o => ?_)
              exact gQ_ret ⟨rfl, h1197_o⟩
            · exact gQ_ret ⟨rfl, h1196_o⟩
        · refine gQ_map ?_
          exact gQ_ret h1181_o
      · refine gQ_map ?_
        exact gQ_ret h1181_o
  · unfold fb_240_16
    dsimp only
    refine gQ_ite ?_ ?_
    · exact gQ_ret (Fw_w h1174_o rfl (hU_o 217 _ rfl))
    · refine gQ_loop (fun y_l => y_l.1 = 217 ∧ Fw W g (y_l.2.2.2.2.2)) (fun y_l hy_o => ?_) ⟨rfl, (Fw_w h1174_o rfl (hU_o 217 _ rfl))⟩
      obtain ⟨x1198_o, x1199_o, x1200_o, x1201_o, x1202_o, x1203_o⟩ := y_l
      obtain ⟨e1205_o, h1204_o⟩ := hy_o
      dsimp only at e1205_o h1204_o
      subst e1205_o
      show gQ (sb_240_37 217 x1199_o x1200_o x1201_o x1202_o x1203_o) _
      unfold sb_240_37
      refine gQ_ite ?_ ?_
      · refine gQ_ite ?_ ?_
        · refine gQ_loop (fun y_l => y_l.1 = 217 ∧ Fw W g (y_l.2.2.2.2.2.2.2)) (fun y_l hy_o => ?_) ⟨rfl, h1204_o⟩
          obtain ⟨x1206_o, x1207_o, x1208_o, x1209_o, x1210_o, x1211_o, x1212_o, x1213_o⟩ := y_l
          obtain ⟨e1215_o, h1214_o⟩ := hy_o
          dsimp only at e1215_o h1214_o
          subst e1215_o
          show gQ (sb_240_59 217 x1207_o x1208_o x1209_o x1210_o x1211_o x1212_o x1213_o) _
          unfold sb_240_59
          refine gQ_ite ?_ ?_
          · refine gQ_chk2 (fun ha1216_o hb1217_o => ?_)
            refine gQ_ite ?_ ?_
            · unfold fb_240_93
              exact gQ_ret ⟨rfl, h1214_o⟩
            · refine gQ_v1 (A := Fw W g) (om_212 hg_o hU_o rfl h1214_o) (fun v5 s4_l h1218_o => ?_)
              refine gQ_ite ?_ ?_
              · unfold fb_240_93
                exact gQ_ret ⟨rfl, h1218_o⟩
              · exact gQ_ret ⟨rfl, h1218_o⟩
          · refine gQ_map ?_
            refine gQ_v1 (A := Fw W g) (om_152 hg_o hU_o  h1214_o) (fun v8 s7 h1219_o => ?_)
            refine gQ_ite ?_ ?_
            · refine gQ_v1 (A := Fw W g) (om_152 hg_o hU_o  h1219_o) (fun v10 s9 h1220_o => ?_)
              exact gQ_ret ⟨rfl, h1220_o⟩
            · exact gQ_ret ⟨rfl, h1219_o⟩
        · refine gQ_map ?_
          exact gQ_ret h1204_o
      · refine gQ_map ?_
        exact gQ_ret h1204_o

theorem om_241 {W : Nat → Nat → Bool} {g s : gS} {a0 : Nat} {a1 : Int} {a2 : Int} {a3 : Int} {a4 : Int} (hg_o : RF g) (hU_o : ∀ a k, mss a k = true → W a k = true) (ea0_o : a0 = 217) (h_o : Fw W g s) : gQ (f_241 a0 a1 a2 a3 a4 s) (fun r => Fw W g r.2.2.2) := by
  subst ea0_o
  unfold f_241
  refine gQ_ite ?_ ?_
  · refine gQ_v1 (A := Fw W g) (om_158 hg_o hU_o rfl h_o) (fun v2 s1_l h1221_o => ?_)
    unfold fb_241_13
    refine gQ_ite ?_ ?_
    · refine gQ_ite ?_ ?_
      · unfold fb_241_44
        refine gQ_ite ?_ ?_
        · exact gQ_ret h1221_o
        · exact gQ_ret h1221_o
      · refine gQ_v1 (A := Fw W g) (om_156 hg_o hU_o rfl h1221_o) (fun v4_l s3_l h1222_o => ?_)
        refine gQ_v1 (A := Fw W g) (om_212 hg_o hU_o rfl h1222_o) (fun v6 s5 h1223_o => ?_)
        refine gQ_ite ?_ ?_
        · unfold fb_241_44
          refine gQ_ite ?_ ?_
          · exact gQ_ret h1223_o
          · exact gQ_ret h1223_o
        · unfold fb_241_43
          unfold fb_241_44
          refine gQ_ite ?_ ?_
          · exact gQ_ret h1223_o
          · exact gQ_ret h1223_o
    · unfold fb_241_43
      unfold fb_241_44
      refine gQ_ite ?_ ?_
      · exact gQ_ret h1221_o
      · exact gQ_ret h1221_o
  · unfold fb_241_13
    refine gQ_ite ?_ ?_
    · refine gQ_ite ?_ ?_
      · unfold fb_241_44
        refine gQ_ite ?_ ?_
        · exact gQ_ret h_o
        · exact gQ_ret h_o
      · refine gQ_v1 (A := Fw W g) (om_156 hg_o hU_o rfl h_o) (fun v4_l s3_l h1224_o => ?_)
        refine gQ_v1 (A := Fw W g) (om_212 hg_o hU_o rfl h1224_o) (fun v6 s5 h1225_o => ?_)
        refine gQ_ite ?_ ?_
        · unfold fb_241_44
          refine gQ_ite ?_ ?_
          · exact gQ_ret h1225_o
          · exact gQ_ret h1225_o
        · unfold fb_241_43
          unfold fb_241_44
          refine gQ_ite ?_ ?_
          · exact gQ_ret h1225_o
          · exact gQ_ret h1225_o
    · unfold fb_241_43
      unfold fb_241_44
      refine gQ_ite ?_ ?_
      · exact gQ_ret h_o
      · exact gQ_ret h_o

theorem om_242 {W : Nat → Nat → Bool} {g s : gS} {a0 : Nat} {a1 : Int} {a2 : Int} {a3 : Int} {a4 : Int} (hg_o : RF g) (hU_o : ∀ a k, mss a k = true → W a k = true) (ea0_o : a0 = 217) (h_o : Fw W g s) : gQ (f_242 a0 a1 a2 a3 a4 s) (fun r => Fw W g r.2.2.2) := by
  subst ea0_o
  unfold f_242
  refine gQ_ite ?_ ?_
  · exact gQ_ret h_o
  · refine gQ_ite ?_ ?_
    · refine gQ_v1 (A := Fw W g) (om_156 hg_o hU_o rfl h_o) (fun v2 s1_l h1226_o => ?_)
      refine gQ_v1 (A := Fw W g) (om_212 hg_o hU_o rfl h1226_o) (fun v4_l s3_l h1227_o => ?_)
      refine gQ_ite ?_ ?_
      · unfold fb_242_37
        exact gQ_ret h1227_o
      · refine gQ_v1 (A := Fw W g) (om_156 hg_o hU_o rfl h1227_o) (fun v7 s6_l h1228_o => ?_)
        exact gQ_ret h1228_o
    · unfold fb_242_37
      exact gQ_ret h_o

theorem om_243 {W : Nat → Nat → Bool} {g s : gS} {a0 : Nat} {a1 : Int} {a2 : Int} (hg_o : RF g) (hU_o : ∀ a k, mss a k = true → W a k = true) (ea0_o : a0 = 217) (h_o : Fw W g s) : gQ (f_243 a0 a1 a2 s) (fun r => Fw W g r.2.2.2) := by
  subst ea0_o
  unfold f_243
  refine gQ_v1 (A := Fw W g) (om_162 hg_o hU_o rfl h_o) (fun v2 s1_l h1229_o => ?_)
  refine gQ_ite ?_ ?_
  · unfold fb_243_22
    dsimp only
    refine gQ_loop (fun y_l => y_l.1 = 217 ∧ Fw W g (y_l.2.2.2.2.2)) (fun y_l hy_o => ?_) ⟨rfl, (Fw_w h1229_o rfl (hU_o 217 _ rfl))⟩
    obtain ⟨x1230_o, x1231_o, x1232_o, x1233_o, x1234_o, x1235_o⟩ := y_l
    obtain ⟨e1237_o, h1236_o⟩ := hy_o
    dsimp only at e1237_o h1236_o
    subst e1237_o
    show gQ (sb_243_30 217 x1231_o x1232_o x1233_o x1234_o x1235_o) _
    unfold sb_243_30
    dsimp only
    refine gQ_ite ?_ ?_
    · refine gQ_ite ?_ ?_
      · refine gQ_v1 (A := Fw W g) (om_241 hg_o hU_o rfl h1236_o) (fun v6 s5 h1238_o => ?_)
        refine gQ_v1 (A := Fw W g) (om_241 hg_o hU_o rfl h1238_o) (fun v8 s7 h1239_o => ?_)
        refine gQ_ite ?_ ?_
        · exact gQ_ret ⟨rfl, h1239_o⟩
        · refine gQ_v1 (A := Fw W g) (om_242 hg_o hU_o rfl h1239_o) (fun v10 s9 h1240_o => ?_)
          refine gQ_v1 (A := Fw W g) (om_242 hg_o hU_o rfl h1240_o) (fun v12 s11 h1241_o => ?_)
          refine gQ_ite ?_ ?_
          · exact gQ_ret ⟨rfl, h1241_o⟩
          · exact gQ_ret ⟨rfl, h1241_o⟩
      · refine gQ_map ?_
        exact gQ_ret h1236_o
    · refine gQ_map ?_
      exact gQ_ret h1236_o
  · refine gQ_v1 (A := Fw W g) (om_163 hg_o hU_o rfl h1229_o) (fun v15 s14 h1242_o => ?_)
    refine gQ_ite ?_ ?_
    · unfold fb_243_22
      dsimp only
      refine gQ_loop (fun y_l => y_l.1 = 217 ∧ Fw W g (y_l.2.2.2.2.2)) (fun y_l hy_o => ?_) ⟨rfl, (Fw_w h1242_o rfl (hU_o 217 _ rfl))⟩
      obtain ⟨x1243_o, x1244_o, x1245_o, x1246_o, x1247_o, x1248_o⟩ := y_l
      obtain ⟨e1250_o, h1249_o⟩ := hy_o
      dsimp only at e1250_o h1249_o
      subst e1250_o
      show gQ (sb_243_30 217 x1244_o x1245_o x1246_o x1247_o x1248_o) _
      unfold sb_243_30
      dsimp only
      refine gQ_ite ?_ ?_
      · refine gQ_ite ?_ ?_
        · refine gQ_v1 (A := Fw W g) (om_241 hg_o hU_o rfl h1249_o) (fun v6 s5 h1251_o => ?_)
          refine gQ_v1 (A := Fw W g) (om_241 hg_o hU_o rfl h1251_o) (fun v8 s7 h1252_o => ?_)
          refine gQ_ite ?_ ?_
          · exact gQ_ret ⟨rfl, h1252_o⟩
          · refine gQ_v1 (A := Fw W g) (om_242 hg_o hU_o rfl h1252_o) (fun v10 s9 h1253_o => ?_)
            refine gQ_v1 (A := Fw W g) (om_242 hg_o hU_o rfl h1253_o) (fun v12 s11 h1254_o => ?_)
            refine gQ_ite ?_ ?_
            · exact gQ_ret ⟨rfl, h1254_o⟩
            · exact gQ_ret ⟨rfl, h1254_o⟩
        · refine gQ_map ?_
          exact gQ_ret h1249_o
      · refine gQ_map ?_
        exact gQ_ret h1249_o
    · unfold fb_243_22
      dsimp only
      refine gQ_loop (fun y_l => y_l.1 = 217 ∧ Fw W g (y_l.2.2.2.2.2)) (fun y_l hy_o => ?_) ⟨rfl, (Fw_w h1242_o rfl (hU_o 217 _ rfl))⟩
      obtain ⟨x1255_o, x1256_o, x1257_o, x1258_o, x1259_o, x1260_o⟩ := y_l
      obtain ⟨e1262_o, h1261_o⟩ := hy_o
      dsimp only at e1262_o h1261_o
      subst e1262_o
      show gQ (sb_243_30 217 x1256_o x1257_o x1258_o x1259_o x1260_o) _
      unfold sb_243_30
      dsimp only
      refine gQ_ite ?_ ?_
      · refine gQ_ite ?_ ?_
        · refine gQ_v1 (A := Fw W g) (om_241 hg_o hU_o rfl h1261_o) (fun v6 s5 h1263_o => ?_)
          refine gQ_v1 (A := Fw W g) (om_241 hg_o hU_o rfl h1263_o) (fun v8 s7 h1264_o => ?_)
          refine gQ_ite ?_ ?_
          · exact gQ_ret ⟨rfl, h1264_o⟩
          · refine gQ_v1 (A := Fw W g) (om_242 hg_o hU_o rfl h1264_o) (fun v10 s9 h1265_o => ?_)
            refine gQ_v1 (A := Fw W g) (om_242 hg_o hU_o rfl h1265_o) (fun v12 s11 h1266_o => ?_)
            refine gQ_ite ?_ ?_
            · exact gQ_ret ⟨rfl, h1266_o⟩
            · exact gQ_ret ⟨rfl, h1266_o⟩
        · refine gQ_map ?_
          exact gQ_ret h1261_o
      · refine gQ_map ?_
        exact gQ_ret h1261_o

theorem om_244 {W : Nat → Nat → Bool} {g s : gS} {a0 : Nat} {a1 : Int} {a2 : Int} (hg_o : RF g) (hU_o : ∀ a k, mss a k = true → W a k = true) (ea0_o : a0 = 217) (h_o : Fw W g s) : gQ (f_244 a0 a1 a2 s) (fun r => Fw W g r.2.2.2) := by
  subst ea0_o
  unfold f_244
  refine gQ_v1 (A := Fw W g) (om_150 hg_o hU_o  h_o) (fun v2 s1_l h1267_o => ?_)
  refine gQ_ite ?_ ?_
  · unfold fb_244_24
    dsimp only
    refine gQ_ite ?_ ?_
    · exact gQ_ret (Fw_w h1267_o rfl (hU_o 217 _ rfl))
    · refine gQ_loop (fun y_l => y_l.1 = 217 ∧ Fw W g (y_l.2.2.2.2.2)) (fun y_l hy_o => ?_) ⟨rfl, (Fw_w h1267_o rfl (hU_o 217 _ rfl))⟩
      obtain ⟨x1268_o, x1269_o, x1270_o, x1271_o, x1272_o, x1273_o⟩ := y_l
      obtain ⟨e1275_o, h1274_o⟩ := hy_o
      dsimp only at e1275_o h1274_o
      subst e1275_o
      show gQ (sb_244_41 217 x1269_o x1270_o x1271_o x1272_o x1273_o) _
      unfold sb_244_41
      refine gQ_ite ?_ ?_
      · exact gQ_ret ⟨rfl, h1274_o⟩
      · refine gQ_map ?_
        refine gQ_loop (fun y_l => y_l.1 = 217 ∧ Fw W g (y_l.2.2.2.2.2.2)) (fun y_l hy_o => ?_) ⟨rfl, h1274_o⟩
        obtain ⟨x1276_o, x1277_o, x1278_o, x1279_o, x1280_o, x1281_o, x1282_o⟩ := y_l
        obtain ⟨e1284_o, h1283_o⟩ := hy_o
        dsimp only at e1284_o h1283_o
        subst e1284_o
        show gQ (sb_244_65 217 x1277_o x1278_o x1279_o x1280_o x1281_o x1282_o) _
        unfold sb_244_65
        refine gQ_ite ?_ ?_
        · refine gQ_v1 (A := Fw W g) (om_154 hg_o hU_o  h1283_o) (fun v6 s5 h1285_o => ?_)
          refine gQ_ite ?_ ?_
          · unfold fb_244_87
            refine gQ_loop (fun y_l => y_l.1 = 217 ∧ Fw W g (y_l.2.2.2.2.2.2.2.2)) (fun y_l hy_o => ?_) ⟨rfl, h1285_o⟩
            obtain ⟨x1286_o, x1287_o, x1288_o, x1289_o, x1290_o, x1291_o, x1292_o, x1293_o, x1294_o⟩ := y_l
            obtain ⟨e1296_o, h1295_o⟩ := hy_o
            dsimp only at e1296_o h1295_o
            subst e1296_o
            show gQ (sb_244_92 217 x1287_o x1288_o x1289_o x1290_o x1291_o x1292_o x1293_o x1294_o) _
            unfold sb_244_92
            dsimp only
            refine gQ_ite ?_ ?_
            · refine gQ_v1 (A := Fw W g) (om_153 hg_o hU_o  h1295_o) (fun v8 s7 h1297_o => ?_)
              refine gQ_ite ?_ ?_
              · exact gQ_ret ⟨rfl, h1297_o⟩
              · exact gQ_ret ⟨rfl, h1297_o⟩
            · refine gQ_map ?_
              exact gQ_ret ⟨rfl, h1295_o⟩
          · unfold fb_244_87
            refine gQ_loop (fun y_l => y_l.1 = 217 ∧ Fw W g (y_l.2.2.2.2.2.2.2.2)) (fun y_l hy_o => ?_) ⟨rfl, h1285_o⟩
            obtain ⟨x1298_o, x1299_o, x1300_o, x1301_o, x1302_o, x1303_o, x1304_o, x1305_o, x1306_o⟩ := y_l
            obtain ⟨e1308_o, h1307_o⟩ := hy_o
            dsimp only at e1308_o h1307_o
            subst e1308_o
            show gQ (sb_244_92 217 x1299_o x1300_o x1301_o x1302_o x1303_o x1304_o x1305_o x1306_o) _
            unfold sb_244_92
            dsimp only
            refine gQ_ite ?_ ?_
            · refine gQ_v1 (A := Fw W g) (om_153 hg_o hU_o  h1307_o) (fun v8 s7 h1309_o => ?_)
              refine gQ_ite ?_ ?_
              · exact gQ_ret ⟨rfl, h1309_o⟩
              · exact gQ_ret ⟨rfl, h1309_o⟩
            · refine gQ_map ?_
              exact gQ_ret ⟨rfl, h1307_o⟩
        · refine gQ_map ?_
          refine gQ_ite ?_ ?_
          · exact gQ_none
          · exact gQ_ret h1283_o
  · refine gQ_v1 (A := Fw W g) (om_150 hg_o hU_o  h1267_o) (fun v13 s12 h1310_o => ?_)
    refine gQ_ite ?_ ?_
    · unfold fb_244_24
      dsimp only
      refine gQ_ite ?_ ?_
      · exact gQ_ret (Fw_w h1310_o rfl (hU_o 217 _ rfl))
      · refine gQ_loop (fun y_l => y_l.1 = 217 ∧ Fw W g (y_l.2.2.2.2.2)) (fun y_l hy_o => ?_) ⟨rfl, (Fw_w h1310_o rfl (hU_o 217 _ rfl))⟩
        obtain ⟨x1311_o, x1312_o, x1313_o, x1314_o, x1315_o, x1316_o⟩ := y_l
        obtain ⟨e1318_o, h1317_o⟩ := hy_o
        dsimp only at e1318_o h1317_o
        subst e1318_o
        show gQ (sb_244_41 217 x1312_o x1313_o x1314_o x1315_o x1316_o) _
        unfold sb_244_41
        refine gQ_ite ?_ ?_
        · exact gQ_ret ⟨rfl, h1317_o⟩
        · refine gQ_map ?_
          refine gQ_loop (fun y_l => y_l.1 = 217 ∧ Fw W g (y_l.2.2.2.2.2.2)) (fun y_l hy_o => ?_) ⟨rfl, h1317_o⟩
          obtain ⟨x1319_o, x1320_o, x1321_o, x1322_o, x1323_o, x1324_o, x1325_o⟩ := y_l
          obtain ⟨e1327_o, h1326_o⟩ := hy_o
          dsimp only at e1327_o h1326_o
          subst e1327_o
          show gQ (sb_244_65 217 x1320_o x1321_o x1322_o x1323_o x1324_o x1325_o) _
          unfold sb_244_65
          refine gQ_ite ?_ ?_
          · refine gQ_v1 (A := Fw W g) (om_154 hg_o hU_o  h1326_o) (fun v6 s5 h1328_o => ?_)
            refine gQ_ite ?_ ?_
            · unfold fb_244_87
              refine gQ_loop (fun y_l => y_l.1 = 217 ∧ Fw W g (y_l.2.2.2.2.2.2.2.2)) (fun y_l hy_o => ?_) ⟨rfl, h1328_o⟩
              obtain ⟨x1329_o, x1330_o, x1331_o, x1332_o, x1333_o, x1334_o, x1335_o, x1336_o, x1337_o⟩ := y_l
              obtain ⟨e1339_o, h1338_o⟩ := hy_o
              dsimp only at e1339_o h1338_o
              subst e1339_o
              show gQ (sb_244_92 217 x1330_o x1331_o x1332_o x1333_o x1334_o x1335_o x1336_o x1337_o) _
              unfold sb_244_92
              dsimp only
              refine gQ_ite ?_ ?_
              · refine gQ_v1 (A := Fw W g) (om_153 hg_o hU_o  h1338_o) (fun v8 s7 h1340_o => ?_)
                refine gQ_ite ?_ ?_
                · exact gQ_ret ⟨rfl, h1340_o⟩
                · exact gQ_ret ⟨rfl, h1340_o⟩
              · refine gQ_map ?_
                exact gQ_ret ⟨rfl, h1338_o⟩
            · unfold fb_244_87
              refine gQ_loop (fun y_l => y_l.1 = 217 ∧ Fw W g (y_l.2.2.2.2.2.2.2.2)) (fun y_l hy_o => ?_) ⟨rfl, h1328_o⟩
              obtain ⟨x1341_o, x1342_o, x1343_o, x1344_o, x1345_o, x1346_o, x1347_o, x1348_o, x1349_o⟩ := y_l
              obtain ⟨e1351_o, h1350_o⟩ := hy_o
              dsimp only at e1351_o h1350_o
              subst e1351_o
              show gQ (sb_244_92 217 x1342_o x1343_o x1344_o x1345_o x1346_o x1347_o x1348_o x1349_o) _
              unfold sb_244_92
              dsimp only
              refine gQ_ite ?_ ?_
              · refine gQ_v1 (A := Fw W g) (om_153 hg_o hU_o  h1350_o) (fun v8 s7 h1352_o => ?_)
                refine gQ_ite ?_ ?_
                · exact gQ_ret ⟨rfl, h1352_o⟩
                · exact gQ_ret ⟨rfl, h1352_o⟩
              · refine gQ_map ?_
                exact gQ_ret ⟨rfl, h1350_o⟩
          · refine gQ_map ?_
            refine gQ_ite ?_ ?_
            · exact gQ_none
            · exact gQ_ret h1326_o
    · unfold fb_244_24
      dsimp only
      refine gQ_ite ?_ ?_
      · exact gQ_ret (Fw_w h1310_o rfl (hU_o 217 _ rfl))
      · refine gQ_loop (fun y_l => y_l.1 = 217 ∧ Fw W g (y_l.2.2.2.2.2)) (fun y_l hy_o => ?_) ⟨rfl, (Fw_w h1310_o rfl (hU_o 217 _ rfl))⟩
        obtain ⟨x1353_o, x1354_o, x1355_o, x1356_o, x1357_o, x1358_o⟩ := y_l
        obtain ⟨e1360_o, h1359_o⟩ := hy_o
        dsimp only at e1360_o h1359_o
        subst e1360_o
        show gQ (sb_244_41 217 x1354_o x1355_o x1356_o x1357_o x1358_o) _
        unfold sb_244_41
        refine gQ_ite ?_ ?_
        · exact gQ_ret ⟨rfl, h1359_o⟩
        · refine gQ_map ?_
          refine gQ_loop (fun y_l => y_l.1 = 217 ∧ Fw W g (y_l.2.2.2.2.2.2)) (fun y_l hy_o => ?_) ⟨rfl, h1359_o⟩
          obtain ⟨x1361_o, x1362_o, x1363_o, x1364_o, x1365_o, x1366_o, x1367_o⟩ := y_l
          obtain ⟨e1369_o, h1368_o⟩ := hy_o
          dsimp only at e1369_o h1368_o
          subst e1369_o
          show gQ (sb_244_65 217 x1362_o x1363_o x1364_o x1365_o x1366_o x1367_o) _
          unfold sb_244_65
          refine gQ_ite ?_ ?_
          · refine gQ_v1 (A := Fw W g) (om_154 hg_o hU_o  h1368_o) (fun v6 s5 h1370_o => ?_)
            refine gQ_ite ?_ ?_
            · unfold fb_244_87
              refine gQ_loop (fun y_l => y_l.1 = 217 ∧ Fw W g (y_l.2.2.2.2.2.2.2.2)) (fun y_l hy_o => ?_) ⟨rfl, h1370_o⟩
              obtain ⟨x1371_o, x1372_o, x1373_o, x1374_o, x1375_o, x1376_o, x1377_o, x1378_o, x1379_o⟩ := y_l
              obtain ⟨e1381_o, h1380_o⟩ := hy_o
              dsimp only at e1381_o h1380_o
              subst e1381_o
              show gQ (sb_244_92 217 x1372_o x1373_o x1374_o x1375_o x1376_o x1377_o x1378_o x1379_o) _
              unfold sb_244_92
              dsimp only
              refine gQ_ite ?_ ?_
              · refine gQ_v1 (A := Fw W g) (om_153 hg_o hU_o  h1380_o) (fun v8 s7 h1382_o => ?_)
                refine gQ_ite ?_ ?_
                · exact gQ_ret ⟨rfl, h1382_o⟩
                · exact gQ_ret ⟨rfl, h1382_o⟩
              · refine gQ_map ?_
                exact gQ_ret ⟨rfl, h1380_o⟩
            · unfold fb_244_87
              refine gQ_loop (fun y_l => y_l.1 = 217 ∧ Fw W g (y_l.2.2.2.2.2.2.2.2)) (fun y_l hy_o => ?_) ⟨rfl, h1370_o⟩
              obtain ⟨x1383_o, x1384_o, x1385_o, x1386_o, x1387_o, x1388_o, x1389_o, x1390_o, x1391_o⟩ := y_l
              obtain ⟨e1393_o, h1392_o⟩ := hy_o
              dsimp only at e1393_o h1392_o
              subst e1393_o
              show gQ (sb_244_92 217 x1384_o x1385_o x1386_o x1387_o x1388_o x1389_o x1390_o x1391_o) _
              unfold sb_244_92
              dsimp only
              refine gQ_ite ?_ ?_
              · refine gQ_v1 (A := Fw W g) (om_153 hg_o hU_o  h1392_o) (fun v8 s7 h1394_o => ?_)
                refine gQ_ite ?_ ?_
                · exact gQ_ret ⟨rfl, h1394_o⟩
                · exact gQ_ret ⟨rfl, h1394_o⟩
              · refine gQ_map ?_
                exact gQ_ret ⟨rfl, h1392_o⟩
          · refine gQ_map ?_
            refine gQ_ite ?_ ?_
            · exact gQ_none
            · exact gQ_ret h1368_o

theorem om_245 {W : Nat → Nat → Bool} {g s : gS} {a0 : Nat} {a1 : Int} (hg_o : RF g) (hU_o : ∀ a k, mss a k = true → W a k = true) (ea0_o : a0 = 217) (h_o : Fw W g s) : gQ (f_245 a0 a1 s) (fun r => Fw W g r.2.2.2) := by
  subst ea0_o
  unfold f_245
  dsimp only
  refine gQ_loop (fun y_l => y_l.1 = 217 ∧ Fw W g (y_l.2.2.2.2)) (fun y_l hy_o => ?_) ⟨rfl, (Fw_w h_o rfl (hU_o 217 _ rfl))⟩
  obtain ⟨x1395_o, x1396_o, x1397_o, x1398_o, x1399_o⟩ := y_l
  obtain ⟨e1401_o, h1400_o⟩ := hy_o
  dsimp only at e1401_o h1400_o
  subst e1401_o
  show gQ (sb_245_9 217 x1396_o x1397_o x1398_o x1399_o) _
  unfold sb_245_9
  refine gQ_ite ?_ ?_
  · refine gQ_ite ?_ ?_
    · unfold fb_245_40
      exact gQ_ret ⟨rfl, h1400_o⟩
    · refine gQ_v1 (A := Fw W g) (om_160 hg_o hU_o rfl h1400_o) (fun v3 s2_l h1402_o => ?_)
      refine gQ_v1 (A := Fw W g) (om_160 hg_o hU_o rfl h1402_o) (fun v5 s4_l h1403_o => ?_)
      refine gQ_ite ?_ ?_
      · unfold fb_245_40
        exact gQ_ret ⟨rfl, h1403_o⟩
      · exact gQ_ret ⟨rfl, h1403_o⟩
  · refine gQ_map ?_
    refine gQ_ite ?_ ?_
    · exact gQ_ret h1400_o
    · refine gQ_loop (fun y_l => y_l.1 = 217 ∧ Fw W g (y_l.2.2.2.2)) (fun y_l hy_o => ?_) ⟨rfl, h1400_o⟩
      obtain ⟨x1404_o, x1405_o, x1406_o, x1407_o, x1408_o⟩ := y_l
      obtain ⟨e1410_o, h1409_o⟩ := hy_o
      dsimp only at e1410_o h1409_o
      subst e1410_o
      show gQ (sb_245_59 217 x1405_o x1406_o x1407_o x1408_o) _
      unfold sb_245_59
      refine gQ_ite ?_ ?_
      · refine gQ_ite ?_ ?_
        · exact gQ_ret ⟨rfl, h1409_o⟩
        · refine gQ_v1 (A := Fw W g) (om_160 hg_o hU_o rfl h1409_o) (fun v7 s6_l h1411_o => ?_)
          refine gQ_v1 (A := Fw W g) (om_152 hg_o hU_o  h1411_o) (fun v9 s8 h1412_o => ?_)
          exact gQ_ret ⟨rfl, h1412_o⟩
      · refine gQ_map ?_
        exact gQ_ret h1409_o

theorem om_246 {W : Nat → Nat → Bool} {g s : gS} {a0 : Nat} {a1 : Int} {a2 : Int} {a3 : Int} (hg_o : RF g) (hU_o : ∀ a k, mss a k = true → W a k = true) (ea0_o : a0 = 217) (h_o : Fw W g s) : gQ (f_246 a0 a1 a2 a3 s) (fun r => Fw W g r.2.2.2) := by
  subst ea0_o
  unfold f_246
  refine gQ_ite ?_ ?_
  · refine gQ_chk2 (fun ha1413_o hb1414_o => ?_)
    exact gQ_ret h_o
  · refine gQ_v1 (A := Fw W g) (om_160 hg_o hU_o rfl h_o) (fun v2 s1_l h1415_o => ?_)
    refine gQ_v1 (A := Fw W g) (om_156 hg_o hU_o rfl h1415_o) (fun v4_l s3_l h1416_o => ?_)
    refine gQ_v1 (A := Fw W g) (om_151 hg_o hU_o  h1416_o) (fun v6 s5 h1417_o => ?_)
    refine gQ_chk2 (fun ha1418_o hb1419_o => ?_)
    exact gQ_ret h1417_o

theorem om_252 {W : Nat → Nat → Bool} {g s : gS} {a0 : Nat} {a1 : Int} (hg_o : RF g) (hU_o : ∀ a k, mss a k = true → W a k = true) (ea0_o : a0 = 217) (h_o : Fw W g s) : gQ (f_252 a0 a1 s) (fun r => Fw W g r.2.2.2) := by
  subst ea0_o
  unfold f_252
  refine gQ_loop (fun y_l => y_l.1 = 217 ∧ Fw W g (y_l.2.2.2.2)) (fun y_l hy_o => ?_) ⟨rfl, h_o⟩
  obtain ⟨x1420_o, x1421_o, x1422_o, x1423_o, x1424_o⟩ := y_l
  obtain ⟨e1426_o, h1425_o⟩ := hy_o
  dsimp only at e1426_o h1425_o
  subst e1426_o
  show gQ (sb_252_4 217 x1421_o x1422_o x1423_o x1424_o) _
  unfold sb_252_4
  dsimp only
  refine gQ_ite ?_ ?_
  · refine gQ_v1 (A := Fw W g) (om_156 hg_o hU_o rfl h1425_o) (fun v2 s1_l h1427_o => ?_)
    refine gQ_ite ?_ ?_
    · exact gQ_ret ⟨rfl, h1427_o⟩
    · exact gQ_ret ⟨rfl, h1427_o⟩
  · refine gQ_map ?_
    exact gQ_ret h1425_o

theorem om_247 {W : Nat → Nat → Bool} {g s : gS} {a0 : Nat} {a1 : Int} (hg_o : RF g) (hU_o : ∀ a k, mss a k = true → W a k = true) (ea0_o : a0 = 217) (h_o : Fw W g s) : gQ (f_247 a0 a1 s) (fun r => Fw W g r.2.2.2) := by
  subst ea0_o
  unfold f_247
  refine gQ_ite ?_ ?_
  · unfold fb_247_18
    unfold fb_247_19
    dsimp only
    refine gQ_ite ?_ ?_
    · exact gQ_ret (Fw_w h_o rfl (hU_o 217 _ rfl))
    · refine gQ_loop (fun y_l => y_l.1 = 217 ∧ Fw W g (y_l.2.2.2.2)) (fun y_l hy_o => ?_) ⟨rfl, (Fw_w h_o rfl (hU_o 217 _ rfl))⟩
      obtain ⟨x1428_o, x1429_o, x1430_o, x1431_o, x1432_o⟩ := y_l
      obtain ⟨e1434_o, h1433_o⟩ := hy_o
      dsimp only at e1434_o h1433_o
      subst e1434_o
      show gQ (sb_247_41 217 x1429_o x1430_o x1431_o x1432_o) _
      unfold sb_247_41
      refine gQ_ite ?_ ?_
      · refine gQ_map ?_
        refine gQ_v1 (A := Fw W g) (om_252 hg_o hU_o rfl h1433_o) (fun v4_l s3_l h1435_o => ?_)
        refine gQ_ite ?_ ?_
        · refine gQ_chk2 (fun ha1436_o hb1437_o => ?_)
          exact gQ_ret h1435_o
        · refine gQ_loop (fun y_l => y_l.1 = 217 ∧ Fw W g (y_l.2.2.2.2.2)) (fun y_l hy_o => ?_) ⟨rfl, h1435_o⟩
          obtain ⟨x1438_o, x1439_o, x1440_o, x1441_o, x1442_o, x1443_o⟩ := y_l
          obtain ⟨e1445_o, h1444_o⟩ := hy_o
          dsimp only at e1445_o h1444_o
          subst e1445_o
          show gQ (sb_247_175 217 x1439_o x1440_o x1441_o x1442_o x1443_o) _
          unfold sb_247_175
          refine gQ_ite ?_ ?_
          · refine gQ_map ?_
            exact gQ_ret h1444_o
          · refine gQ_loop (fun y_l => y_l.1 = 217 ∧ Fw W g (y_l.2.2.2.2.2)) (fun y_l hy_o => ?_) ⟨rfl, h1444_o⟩
            obtain ⟨x1446_o, x1447_o, x1448_o, x1449_o, x1450_o, x1451_o⟩ := y_l
            obtain ⟨e1453_o, h1452_o⟩ := hy_o
            dsimp only at e1453_o h1452_o
            subst e1453_o
            show gQ (sb_247_184 217 x1447_o x1448_o x1449_o x1450_o x1451_o) _
            unfold sb_247_184
            refine gQ_ite ?_ ?_
            · unfold fb_247_199
              dsimp only
              refine gQ_v1 (A := Fw W g) (om_246 hg_o hU_o rfl h1452_o) (fun v6 s5 h1454_o => ?_)
              refine gQ_chk2 (fun ha1455_o hb1456_o => ?_)
              refine gQ_ite ?_ ?_
              · refine gQ_map ?_
                refine gQ_ite ?_ ?_
                · exact gQ_ret ⟨rfl, h1454_o⟩
                · exact gQ_ret ⟨rfl, h1454_o⟩
              · exact gQ_ret ⟨rfl, h1454_o⟩
            · refine gQ_v1 (A := Fw W g) (om_153 hg_o hU_o  h1452_o) (fun v9 s8 h1457_o => ?_)
              refine gQ_ite ?_ ?_
              · exact gQ_ret ⟨rfl, h1457_o⟩
              · unfold fb_247_199
                dsimp only
                refine gQ_v1 (A := Fw W g) (om_246 hg_o hU_o rfl h1457_o) (fun v6 s5 h1458_o => ?_)
                refine gQ_chk2 (fun ha1459_o hb1460_o => ?_)
                refine gQ_ite ?_ ?_
                · refine gQ_map ?_
                  refine gQ_ite ?_ ?_
                  · exact gQ_ret ⟨rfl, h1458_o⟩
                  · exact gQ_ret ⟨rfl, h1458_o⟩
                · exact gQ_ret ⟨rfl, h1458_o⟩
      · refine gQ_loop (fun y_l => y_l.1 = 217 ∧ Fw W g (y_l.2.2.2.2.2)) (fun y_l hy_o => ?_) ⟨rfl, h1433_o⟩
        obtain ⟨x1461_o, x1462_o, x1463_o, x1464_o, x1465_o, x1466_o⟩ := y_l
        obtain ⟨e1468_o, h1467_o⟩ := hy_o
        dsimp only at e1468_o h1467_o
        subst e1468_o
        show gQ (sb_247_48 217 x1462_o x1463_o x1464_o x1465_o x1466_o) _
        unfold sb_247_48
        refine gQ_ite ?_ ?_
        · refine gQ_ite ?_ ?_
          · unfold fb_247_72
            refine gQ_loop (fun y_l => y_l.1 = 217 ∧ Fw W g (y_l.2.2.2.2.2.2.2)) (fun y_l hy_o => ?_) ⟨rfl, h1467_o⟩
            obtain ⟨x1469_o, x1470_o, x1471_o, x1472_o, x1473_o, x1474_o, x1475_o, x1476_o⟩ := y_l
            obtain ⟨e1478_o, h1477_o⟩ := hy_o
            dsimp only at e1478_o h1477_o
            subst e1478_o
            show gQ (sb_247_77 217 x1470_o x1471_o x1472_o x1473_o x1474_o x1475_o x1476_o) _
            unfold sb_247_77
            refine gQ_ite ?_ ?_
            · refine gQ_ite ?_ ?_
              · refine gQ_v1 (A := Fw W g) (om_153 hg_o hU_o  h1477_o) (fun v12 s11 h1479_o => ?_)
                refine gQ_ite ?_ ?_
                · exact gQ_ret ⟨rfl, h1479_o⟩
                · refine gQ_v1 (A := Fw W g) (om_246 hg_o hU_o rfl h1479_o) (fun v15 s14 h1480_o => ?_)
                  refine gQ_v1 (A := Fw W g) (om_152 hg_o hU_o  h1480_o) (fun v17 s16 h1481_o => ?_)
                  exact gQ_ret ⟨rfl, h1481_o⟩
              · refine gQ_map ?_
                unfold fb_247_125
                dsimp only
                refine gQ_chk2 (fun ha1482_o hb1483_o => ?_)
                exact gQ_ret ⟨rfl, (Fw_w h1477_o (fr_r h1477_o rfl (rr_217_24 hg_o)) (hU_o 230 _ rfl))⟩
            · refine gQ_map ?_
              unfold fb_247_125
              dsimp only
              refine gQ_chk2 (fun ha1484_o hb1485_o => ?_)
              exact gQ_ret ⟨rfl, (Fw_w h1477_o (fr_r h1477_o rfl (rr_217_24 hg_o)) (hU_o 230 _ rfl))⟩
          · refine gQ_v1 (A := Fw W g) (om_246 hg_o hU_o rfl h1467_o) (fun v20 s19 h1486_o => ?_)
            unfold fb_247_72
            refine gQ_loop (fun y_l => y_l.1 = 217 ∧ Fw W g (y_l.2.2.2.2.2.2.2)) (fun y_l hy_o => ?_) ⟨rfl, h1486_o⟩
            obtain ⟨x1487_o, x1488_o, x1489_o, x1490_o, x1491_o, x1492_o, x1493_o, x1494_o⟩ := y_l
            obtain ⟨e1496_o, h1495_o⟩ := hy_o
            dsimp only at e1496_o h1495_o
            subst e1496_o
            show gQ (sb_247_77 217 x1488_o x1489_o x1490_o x1491_o x1492_o x1493_o x1494_o) _
            unfold sb_247_77
            refine gQ_ite ?_ ?_
            · refine gQ_ite ?_ ?_
              · refine gQ_v1 (A := Fw W g) (om_153 hg_o hU_o  h1495_o) (fun v12 s11 h1497_o => ?_)
                refine gQ_ite ?_ ?_
                · exact gQ_ret ⟨rfl, h1497_o⟩
                · refine gQ_v1 (A := Fw W g) (om_246 hg_o hU_o rfl h1497_o) (fun v15 s14 h1498_o => ?_)
                  refine gQ_v1 (A := Fw W g) (om_152 hg_o hU_o  h1498_o) (fun v17 s16 h1499_o => ?_)
                  exact gQ_ret ⟨rfl, h1499_o⟩
              · refine gQ_map ?_
                unfold fb_247_125
                dsimp only
                refine gQ_chk2 (fun ha1500_o hb1501_o => ?_)
                exact gQ_ret ⟨rfl, (Fw_w h1495_o (fr_r h1495_o rfl (rr_217_24 hg_o)) (hU_o 230 _ rfl))⟩
            · refine gQ_map ?_
              unfold fb_247_125
              dsimp only
              refine gQ_chk2 (fun ha1502_o hb1503_o => ?_)
              exact gQ_ret ⟨rfl, (Fw_w h1495_o (fr_r h1495_o rfl (rr_217_24 hg_o)) (hU_o 230 _ rfl))⟩
        · refine gQ_map ?_
          exact gQ_ret ⟨rfl, h1467_o⟩
  · refine gQ_v1 (A := Fw W g) (om_164 hg_o hU_o rfl h_o) (fun v22 s21 h1504_o => ?_)
    refine gQ_ite ?_ ?_
    · unfold fb_247_19
      dsimp only
      refine gQ_ite ?_ ?_
      · exact gQ_ret (Fw_w h1504_o rfl (hU_o 217 _ rfl))
      · refine gQ_loop (fun y_l => y_l.1 = 217 ∧ Fw W g (y_l.2.2.2.2)) (fun y_l hy_o => ?_) ⟨rfl, (Fw_w h1504_o rfl (hU_o 217 _ rfl))⟩
        obtain ⟨x1505_o, x1506_o, x1507_o, x1508_o, x1509_o⟩ := y_l
        obtain ⟨e1511_o, h1510_o⟩ := hy_o
        dsimp only at e1511_o h1510_o
        subst e1511_o
        show gQ (sb_247_41 217 x1506_o x1507_o x1508_o x1509_o) _
        unfold sb_247_41
        refine gQ_ite ?_ ?_
        · refine gQ_map ?_
          refine gQ_v1 (A := Fw W g) (om_252 hg_o hU_o rfl h1510_o) (fun v4_l s3_l h1512_o => ?_)
          refine gQ_ite ?_ ?_
          · refine gQ_chk2 (fun ha1513_o hb1514_o => ?_)
            exact gQ_ret h1512_o
          · refine gQ_loop (fun y_l => y_l.1 = 217 ∧ Fw W g (y_l.2.2.2.2.2)) (fun y_l hy_o => ?_) ⟨rfl, h1512_o⟩
            obtain ⟨x1515_o, x1516_o, x1517_o, x1518_o, x1519_o, x1520_o⟩ := y_l
            obtain ⟨e1522_o, h1521_o⟩ := hy_o
            dsimp only at e1522_o h1521_o
            subst e1522_o
            show gQ (sb_247_175 217 x1516_o x1517_o x1518_o x1519_o x1520_o) _
            unfold sb_247_175
            refine gQ_ite ?_ ?_
            · refine gQ_map ?_
              exact gQ_ret h1521_o
            · refine gQ_loop (fun y_l => y_l.1 = 217 ∧ Fw W g (y_l.2.2.2.2.2)) (fun y_l hy_o => ?_) ⟨rfl, h1521_o⟩
              obtain ⟨x1523_o, x1524_o, x1525_o, x1526_o, x1527_o, x1528_o⟩ := y_l
              obtain ⟨e1530_o, h1529_o⟩ := hy_o
              dsimp only at e1530_o h1529_o
              subst e1530_o
              show gQ (sb_247_184 217 x1524_o x1525_o x1526_o x1527_o x1528_o) _
              unfold sb_247_184
              refine gQ_ite ?_ ?_
              · unfold fb_247_199
                dsimp only
                refine gQ_v1 (A := Fw W g) (om_246 hg_o hU_o rfl h1529_o) (fun v6 s5 h1531_o => ?_)
                refine gQ_chk2 (fun ha1532_o hb1533_o => ?_)
                refine gQ_ite ?_ ?_
                · refine gQ_map ?_
                  refine gQ_ite ?_ ?_
                  · exact gQ_ret ⟨rfl, h1531_o⟩
                  · exact gQ_ret ⟨rfl, h1531_o⟩
                · exact gQ_ret ⟨rfl, h1531_o⟩
              · refine gQ_v1 (A := Fw W g) (om_153 hg_o hU_o  h1529_o) (fun v9 s8 h1534_o => ?_)
                refine gQ_ite ?_ ?_
                · exact gQ_ret ⟨rfl, h1534_o⟩
                · unfold fb_247_199
                  dsimp only
                  refine gQ_v1 (A := Fw W g) (om_246 hg_o hU_o rfl h1534_o) (fun v6 s5 h1535_o => ?_)
                  refine gQ_chk2 (fun ha1536_o hb1537_o => ?_)
                  refine gQ_ite ?_ ?_
                  · refine gQ_map ?_
                    refine gQ_ite ?_ ?_
                    · exact gQ_ret ⟨rfl, h1535_o⟩
                    · exact gQ_ret ⟨rfl, h1535_o⟩
                  · exact gQ_ret ⟨rfl, h1535_o⟩
        · refine gQ_loop (fun y_l => y_l.1 = 217 ∧ Fw W g (y_l.2.2.2.2.2)) (fun y_l hy_o => ?_) ⟨rfl, h1510_o⟩
          obtain ⟨x1538_o, x1539_o, x1540_o, x1541_o, x1542_o, x1543_o⟩ := y_l
          obtain ⟨e1545_o, h1544_o⟩ := hy_o
          dsimp only at e1545_o h1544_o
          subst e1545_o
          show gQ (sb_247_48 217 x1539_o x1540_o x1541_o x1542_o x1543_o) _
          unfold sb_247_48
          refine gQ_ite ?_ ?_
          · refine gQ_ite ?_ ?_
            · unfold fb_247_72
              refine gQ_loop (fun y_l => y_l.1 = 217 ∧ Fw W g (y_l.2.2.2.2.2.2.2)) (fun y_l hy_o => ?_) ⟨rfl, h1544_o⟩
              obtain ⟨x1546_o, x1547_o, x1548_o, x1549_o, x1550_o, x1551_o, x1552_o, x1553_o⟩ := y_l
              obtain ⟨e1555_o, h1554_o⟩ := hy_o
              dsimp only at e1555_o h1554_o
              subst e1555_o
              show gQ (sb_247_77 217 x1547_o x1548_o x1549_o x1550_o x1551_o x1552_o x1553_o) _
              unfold sb_247_77
              refine gQ_ite ?_ ?_
              · refine gQ_ite ?_ ?_
                · refine gQ_v1 (A := Fw W g) (om_153 hg_o hU_o  h1554_o) (fun v12 s11 h1556_o => ?_)
                  refine gQ_ite ?_ ?_
                  · exact gQ_ret ⟨rfl, h1556_o⟩
                  · refine gQ_v1 (A := Fw W g) (om_246 hg_o hU_o rfl h1556_o) (fun v15 s14 h1557_o => ?_)
                    refine gQ_v1 (A := Fw W g) (om_152 hg_o hU_o  h1557_o) (fun v17 s16 h1558_o => ?_)
                    exact gQ_ret ⟨rfl, h1558_o⟩
                · refine gQ_map ?_
                  unfold fb_247_125
                  dsimp only
                  refine gQ_chk2 (fun ha1559_o hb1560_o => ?_)
                  exact gQ_ret ⟨rfl, (Fw_w h1554_o (fr_r h1554_o rfl (rr_217_24 hg_o)) (hU_o 230 _ rfl))⟩
              · refine gQ_map ?_
                unfold fb_247_125
                dsimp only
                refine gQ_chk2 (fun ha1561_o hb1562_o => ?_)
                exact gQ_ret ⟨rfl, (Fw_w h1554_o (fr_r h1554_o rfl (rr_217_24 hg_o)) (hU_o 230 _ rfl))⟩
            · refine gQ_v1 (A := Fw W g) (om_246 hg_o hU_o rfl h1544_o) (fun v20 s19 h1563_o => ?_)
              unfold fb_247_72
              refine gQ_loop (fun y_l => y_l.1 = 217 ∧ Fw W g (y_l.2.2.2.2.2.2.2)) (fun y_l hy_o => ?_) ⟨rfl, h1563_o⟩
              obtain ⟨x1564_o, x1565_o, x1566_o, x1567_o, x1568_o, x1569_o, x1570_o, x1571_o⟩ := y_l
              obtain ⟨e1573_o, h1572_o⟩ := hy_o
              dsimp only at e1573_o h1572_o
              subst e1573_o
              show gQ (sb_247_77 217 x1565_o x1566_o x1567_o x1568_o x1569_o x1570_o x1571_o) _
              unfold sb_247_77
              refine gQ_ite ?_ ?_
              · refine gQ_ite ?_ ?_
                · refine gQ_v1 (A := Fw W g) (om_153 hg_o hU_o  h1572_o) (fun v12 s11 h1574_o => ?_)
                  refine gQ_ite ?_ ?_
                  · exact gQ_ret ⟨rfl, h1574_o⟩
                  · refine gQ_v1 (A := Fw W g) (om_246 hg_o hU_o rfl h1574_o) (fun v15 s14 h1575_o => ?_)
                    refine gQ_v1 (A := Fw W g) (om_152 hg_o hU_o  h1575_o) (fun v17 s16 h1576_o => ?_)
                    exact gQ_ret ⟨rfl, h1576_o⟩
                · refine gQ_map ?_
                  unfold fb_247_125
                  dsimp only
                  refine gQ_chk2 (fun ha1577_o hb1578_o => ?_)
                  exact gQ_ret ⟨rfl, (Fw_w h1572_o (fr_r h1572_o rfl (rr_217_24 hg_o)) (hU_o 230 _ rfl))⟩
              · refine gQ_map ?_
                unfold fb_247_125
                dsimp only
                refine gQ_chk2 (fun ha1579_o hb1580_o => ?_)
                exact gQ_ret ⟨rfl, (Fw_w h1572_o (fr_r h1572_o rfl (rr_217_24 hg_o)) (hU_o 230 _ rfl))⟩
          · refine gQ_map ?_
            exact gQ_ret ⟨rfl, h1544_o⟩
    · unfold fb_247_18
      unfold fb_247_19
      dsimp only
      refine gQ_ite ?_ ?_
      · exact gQ_ret (Fw_w h1504_o rfl (hU_o 217 _ rfl))
      · refine gQ_loop (fun y_l => y_l.1 = 217 ∧ Fw W g (y_l.2.2.2.2)) (fun y_l hy_o => ?_) ⟨rfl, (Fw_w h1504_o rfl (hU_o 217 _ rfl))⟩
        obtain ⟨x1581_o, x1582_o, x1583_o, x1584_o, x1585_o⟩ := y_l
        obtain ⟨e1587_o, h1586_o⟩ := hy_o
        dsimp only at e1587_o h1586_o
        subst e1587_o
        show gQ (sb_247_41 217 x1582_o x1583_o x1584_o x1585_o) _
        unfold sb_247_41
        refine gQ_ite ?_ ?_
        · refine gQ_map ?_
          refine gQ_v1 (A := Fw W g) (om_252 hg_o hU_o rfl h1586_o) (fun v4_l s3_l h1588_o => ?_)
          refine gQ_ite ?_ ?_
          · refine gQ_chk2 (fun ha1589_o hb1590_o => ?_)
            exact gQ_ret h1588_o
          · refine gQ_loop (fun y_l => y_l.1 = 217 ∧ Fw W g (y_l.2.2.2.2.2)) (fun y_l hy_o => ?_) ⟨rfl, h1588_o⟩
            obtain ⟨x1591_o, x1592_o, x1593_o, x1594_o, x1595_o, x1596_o⟩ := y_l
            obtain ⟨e1598_o, h1597_o⟩ := hy_o
            dsimp only at e1598_o h1597_o
            subst e1598_o
            show gQ (sb_247_175 217 x1592_o x1593_o x1594_o x1595_o x1596_o) _
            unfold sb_247_175
            refine gQ_ite ?_ ?_
            · refine gQ_map ?_
              exact gQ_ret h1597_o
            · refine gQ_loop (fun y_l => y_l.1 = 217 ∧ Fw W g (y_l.2.2.2.2.2)) (fun y_l hy_o => ?_) ⟨rfl, h1597_o⟩
              obtain ⟨x1599_o, x1600_o, x1601_o, x1602_o, x1603_o, x1604_o⟩ := y_l
              obtain ⟨e1606_o, h1605_o⟩ := hy_o
              dsimp only at e1606_o h1605_o
              subst e1606_o
              show gQ (sb_247_184 217 x1600_o x1601_o x1602_o x1603_o x1604_o) _
              unfold sb_247_184
              refine gQ_ite ?_ ?_
              · unfold fb_247_199
                dsimp only
                refine gQ_v1 (A := Fw W g) (om_246 hg_o hU_o rfl h1605_o) (fun v6 s5 h1607_o => ?_)
                refine gQ_chk2 (fun ha1608_o hb1609_o => ?_)
                refine gQ_ite ?_ ?_
                · refine gQ_map ?_
                  refine gQ_ite ?_ ?_
                  · exact gQ_ret ⟨rfl, h1607_o⟩
                  · exact gQ_ret ⟨rfl, h1607_o⟩
                · exact gQ_ret ⟨rfl, h1607_o⟩
              · refine gQ_v1 (A := Fw W g) (om_153 hg_o hU_o  h1605_o) (fun v9 s8 h1610_o => ?_)
                refine gQ_ite ?_ ?_
                · exact gQ_ret ⟨rfl, h1610_o⟩
                · unfold fb_247_199
                  dsimp only
                  refine gQ_v1 (A := Fw W g) (om_246 hg_o hU_o rfl h1610_o) (fun v6 s5 h1611_o => ?_)
                  refine gQ_chk2 (fun ha1612_o hb1613_o => ?_)
                  refine gQ_ite ?_ ?_
                  · refine gQ_map ?_
                    refine gQ_ite ?_ ?_
                    · exact gQ_ret ⟨rfl, h1611_o⟩
                    · exact gQ_ret ⟨rfl, h1611_o⟩
                  · exact gQ_ret ⟨rfl, h1611_o⟩
        · refine gQ_loop (fun y_l => y_l.1 = 217 ∧ Fw W g (y_l.2.2.2.2.2)) (fun y_l hy_o => ?_) ⟨rfl, h1586_o⟩
          obtain ⟨x1614_o, x1615_o, x1616_o, x1617_o, x1618_o, x1619_o⟩ := y_l
          obtain ⟨e1621_o, h1620_o⟩ := hy_o
          dsimp only at e1621_o h1620_o
          subst e1621_o
          show gQ (sb_247_48 217 x1615_o x1616_o x1617_o x1618_o x1619_o) _
          unfold sb_247_48
          refine gQ_ite ?_ ?_
          · refine gQ_ite ?_ ?_
            · unfold fb_247_72
              refine gQ_loop (fun y_l => y_l.1 = 217 ∧ Fw W g (y_l.2.2.2.2.2.2.2)) (fun y_l hy_o => ?_) ⟨rfl, h1620_o⟩
              obtain ⟨x1622_o, x1623_o, x1624_o, x1625_o, x1626_o, x1627_o, x1628_o, x1629_o⟩ := y_l
              obtain ⟨e1631_o, h1630_o⟩ := hy_o
              dsimp only at e1631_o h1630_o
              subst e1631_o
              show gQ (sb_247_77 217 x1623_o x1624_o x1625_o x1626_o x1627_o x1628_o x1629_o) _
              unfold sb_247_77
              refine gQ_ite ?_ ?_
              · refine gQ_ite ?_ ?_
                · refine gQ_v1 (A := Fw W g) (om_153 hg_o hU_o  h1630_o) (fun v12 s11 h1632_o => ?_)
                  refine gQ_ite ?_ ?_
                  · exact gQ_ret ⟨rfl, h1632_o⟩
                  · refine gQ_v1 (A := Fw W g) (om_246 hg_o hU_o rfl h1632_o) (fun v15 s14 h1633_o => ?_)
                    refine gQ_v1 (A := Fw W g) (om_152 hg_o hU_o  h1633_o) (fun v17 s16 h1634_o => ?_)
                    exact gQ_ret ⟨rfl, h1634_o⟩
                · refine gQ_map ?_
                  unfold fb_247_125
                  dsimp only
                  refine gQ_chk2 (fun ha1635_o hb1636_o => ?_)
                  exact gQ_ret ⟨rfl, (Fw_w h1630_o (fr_r h1630_o rfl (rr_217_24 hg_o)) (hU_o 230 _ rfl))⟩
              · refine gQ_map ?_
                unfold fb_247_125
                dsimp only
                refine gQ_chk2 (fun ha1637_o hb1638_o => ?_)
                exact gQ_ret ⟨rfl, (Fw_w h1630_o (fr_r h1630_o rfl (rr_217_24 hg_o)) (hU_o 230 _ rfl))⟩
            · refine gQ_v1 (A := Fw W g) (om_246 hg_o hU_o rfl h1620_o) (fun v20 s19 h1639_o => ?_)
              unfold fb_247_72
              refine gQ_loop (fun y_l => y_l.1 = 217 ∧ Fw W g (y_l.2.2.2.2.2.2.2)) (fun y_l hy_o => ?_) ⟨rfl, h1639_o⟩
              obtain ⟨x1640_o, x1641_o, x1642_o, x1643_o, x1644_o, x1645_o, x1646_o, x1647_o⟩ := y_l
              obtain ⟨e1649_o, h1648_o⟩ := hy_o
              dsimp only at e1649_o h1648_o
              subst e1649_o
              show gQ (sb_247_77 217 x1641_o x1642_o x1643_o x1644_o x1645_o x1646_o x1647_o) _
              unfold sb_247_77
              refine gQ_ite ?_ ?_
              · refine gQ_ite ?_ ?_
                · refine gQ_v1 (A := Fw W g) (om_153 hg_o hU_o  h1648_o) (fun v12 s11 h1650_o => ?_)
                  refine gQ_ite ?_ ?_
                  · exact gQ_ret ⟨rfl, h1650_o⟩
                  · refine gQ_v1 (A := Fw W g) (om_246 hg_o hU_o rfl h1650_o) (fun v15 s14 h1651_o => ?_)
                    refine gQ_v1 (A := Fw W g) (om_152 hg_o hU_o  h1651_o) (fun v17 s16 h1652_o => ?_)
                    exact gQ_ret ⟨rfl, h1652_o⟩
                · refine gQ_map ?_
                  unfold fb_247_125
                  dsimp only
                  refine gQ_chk2 (fun ha1653_o hb1654_o => ?_)
                  exact gQ_ret ⟨rfl, (Fw_w h1648_o (fr_r h1648_o rfl (rr_217_24 hg_o)) (hU_o 230 _ rfl))⟩
              · refine gQ_map ?_
                unfold fb_247_125
                dsimp only
                refine gQ_chk2 (fun ha1655_o hb1656_o => ?_)
                exact gQ_ret ⟨rfl, (Fw_w h1648_o (fr_r h1648_o rfl (rr_217_24 hg_o)) (hU_o 230 _ rfl))⟩
          · refine gQ_map ?_
            exact gQ_ret ⟨rfl, h1620_o⟩

theorem om_248 {W : Nat → Nat → Bool} {g s : gS} {a0 : Nat} (hg_o : RF g) (hU_o : ∀ a k, mss a k = true → W a k = true) (ea0_o : a0 = 217) (h_o : Fw W g s) : gQ (f_248 a0 s) (fun r => Fw W g r.2.2.2) := by
  subst ea0_o
  unfold f_248
  dsimp only
  refine gQ_loop (fun y_l => y_l.1 = 217 ∧ Fw W g (y_l.2.2.2.2)) (fun y_l hy_o => ?_) ⟨rfl, (Fw_w h_o rfl (hU_o 217 _ rfl))⟩
  obtain ⟨x1657_o, x1658_o, x1659_o, x1660_o, x1661_o⟩ := y_l
  obtain ⟨e1663_o, h1662_o⟩ := hy_o
  dsimp only at e1663_o h1662_o
  subst e1663_o
  show gQ (sb_248_20 217 x1658_o x1659_o x1660_o x1661_o) _
  unfold sb_248_20
  refine gQ_ite ?_ ?_
  · refine gQ_loop (fun y_l => y_l.1 = 217 ∧ Fw W g (y_l.2.2.2.2.2.2)) (fun y_l hy_o => ?_) ⟨rfl, h1662_o⟩
    obtain ⟨x1664_o, x1665_o, x1666_o, x1667_o, x1668_o, x1669_o, x1670_o⟩ := y_l
    obtain ⟨e1672_o, h1671_o⟩ := hy_o
    dsimp only at e1672_o h1671_o
    subst e1672_o
    show gQ (sb_248_39 217 x1665_o x1666_o x1667_o x1668_o x1669_o x1670_o) _
    unfold sb_248_39
    refine gQ_ite ?_ ?_
    · refine gQ_v1 (A := Fw W g) (om_153 hg_o hU_o  h1671_o) (fun v4_l s3_l h1673_o => ?_)
      refine gQ_ite ?_ ?_
      · exact gQ_ret ⟨rfl, h1673_o⟩
      · refine gQ_v1 (A := Fw W g) (om_160 hg_o hU_o rfl h1673_o) (fun v7 s6_l h1674_o => ?_)
        exact gQ_ret ⟨rfl, h1674_o⟩
    · refine gQ_map ?_
      refine gQ_ite ?_ ?_
      · refine gQ_ite ?_ ?_
        · unfold fb_248_107
          exact gQ_ret ⟨rfl, h1671_o⟩
        · refine gQ_v1 (A := Fw W g) (om_154 hg_o hU_o  h1671_o) (fun v9 s8 h1675_o => ?_)
          refine gQ_v1 (A := Fw W g) (om_154 hg_o hU_o  h1675_o) (fun v11 s10 h1676_o => ?_)
          refine gQ_ite ?_ ?_
          · unfold fb_248_107
            exact gQ_ret ⟨rfl, h1676_o⟩
          · exact gQ_ret ⟨rfl, h1676_o⟩
      · exact gQ_ret ⟨rfl, h1671_o⟩
  · refine gQ_map ?_
    exact gQ_ret h1662_o

theorem om_249 {W : Nat → Nat → Bool} {g s : gS} {a0 : Nat} (hg_o : RF g) (hU_o : ∀ a k, mss a k = true → W a k = true) (ea0_o : a0 = 217) (h_o : Fw W g s) : gQ (f_249 a0 s) (fun r => Fw W g r.2.2.2) := by
  subst ea0_o
  unfold f_249
  dsimp only
  refine gQ_loop (fun y_l => y_l.1 = 217 ∧ Fw W g (y_l.2.2.2)) (fun y_l hy_o => ?_) ⟨rfl, (Fw_w h_o rfl (hU_o 217 _ rfl))⟩
  obtain ⟨x1677_o, x1678_o, x1679_o, x1680_o⟩ := y_l
  obtain ⟨e1682_o, h1681_o⟩ := hy_o
  dsimp only at e1682_o h1681_o
  subst e1682_o
  show gQ (sb_249_9 217 x1678_o x1679_o x1680_o) _
  unfold sb_249_9
  refine gQ_ite ?_ ?_
  · refine gQ_loop (fun y_l => y_l.1 = 217 ∧ Fw W g (y_l.2.2.2.2)) (fun y_l hy_o => ?_) ⟨rfl, h1681_o⟩
    obtain ⟨x1683_o, x1684_o, x1685_o, x1686_o, x1687_o⟩ := y_l
    obtain ⟨e1689_o, h1688_o⟩ := hy_o
    dsimp only at e1689_o h1688_o
    subst e1689_o
    show gQ (sb_249_23 217 x1684_o x1685_o x1686_o x1687_o) _
    unfold sb_249_23
    refine gQ_ite ?_ ?_
    · refine gQ_v1 (A := Fw W g) (om_156 hg_o hU_o rfl h1688_o) (fun v3 s2_l h1690_o => ?_)
      refine gQ_v1 (A := Fw W g) (om_156 hg_o hU_o rfl h1690_o) (fun v5 s4_l h1691_o => ?_)
      refine gQ_ite ?_ ?_
      · exact gQ_ret ⟨rfl, h1691_o⟩
      · exact gQ_ret ⟨rfl, h1691_o⟩
    · refine gQ_map ?_
      exact gQ_ret ⟨rfl, h1688_o⟩
  · refine gQ_map ?_
    exact gQ_ret h1681_o

theorem om_250 {W : Nat → Nat → Bool} {g s : gS} {a0 : Nat} {a1 : Int} (hg_o : RF g) (hU_o : ∀ a k, mss a k = true → W a k = true) (ea0_o : a0 = 217) (h_o : Fw W g s) : gQ (f_250 a0 a1 s) (fun r => Fw W g r.2.2.2) := by
  subst ea0_o
  unfold f_250
  refine gQ_v1 (A := Fw W g) (om_150 hg_o hU_o  h_o) (fun v2 s1_l h1692_o => ?_)
  refine gQ_ite ?_ ?_
  · unfold fb_250_15
    dsimp only
    refine gQ_loop (fun y_l => y_l.1 = 217 ∧ Fw W g (y_l.2.2.2.2)) (fun y_l hy_o => ?_) ⟨rfl, (Fw_w h1692_o rfl (hU_o 217 _ rfl))⟩
    obtain ⟨x1693_o, x1694_o, x1695_o, x1696_o, x1697_o⟩ := y_l
    obtain ⟨e1699_o, h1698_o⟩ := hy_o
    dsimp only at e1699_o h1698_o
    subst e1699_o
    show gQ (sb_250_22 217 x1694_o x1695_o x1696_o x1697_o) _
    unfold sb_250_22
    dsimp only
    refine gQ_ite ?_ ?_
    · refine gQ_ite ?_ ?_
      · refine gQ_v1 (A := Fw W g) (om_156 hg_o hU_o rfl h1698_o) (fun v6 s5 h1700_o => ?_)
        refine gQ_v1 (A := Fw W g) (om_153 hg_o hU_o  h1700_o) (fun v8 s7 h1701_o => ?_)
        refine gQ_ite ?_ ?_
        · exact gQ_ret ⟨rfl, h1701_o⟩
        · exact gQ_ret ⟨rfl, h1701_o⟩
      · refine gQ_map ?_
        exact gQ_ret h1698_o
    · refine gQ_map ?_
      exact gQ_ret h1698_o
  · unfold fb_250_15
    dsimp only
    refine gQ_loop (fun y_l => y_l.1 = 217 ∧ Fw W g (y_l.2.2.2.2)) (fun y_l hy_o => ?_) ⟨rfl, (Fw_w h1692_o rfl (hU_o 217 _ rfl))⟩
    obtain ⟨x1702_o, x1703_o, x1704_o, x1705_o, x1706_o⟩ := y_l
    obtain ⟨e1708_o, h1707_o⟩ := hy_o
    dsimp only at e1708_o h1707_o
    subst e1708_o
    show gQ (sb_250_22 217 x1703_o x1704_o x1705_o x1706_o) _
    unfold sb_250_22
    dsimp only
    refine gQ_ite ?_ ?_
    · refine gQ_ite ?_ ?_
      · refine gQ_v1 (A := Fw W g) (om_156 hg_o hU_o rfl h1707_o) (fun v6 s5 h1709_o => ?_)
        refine gQ_v1 (A := Fw W g) (om_153 hg_o hU_o  h1709_o) (fun v8 s7 h1710_o => ?_)
        refine gQ_ite ?_ ?_
        · exact gQ_ret ⟨rfl, h1710_o⟩
        · exact gQ_ret ⟨rfl, h1710_o⟩
      · refine gQ_map ?_
        exact gQ_ret h1707_o
    · refine gQ_map ?_
      exact gQ_ret h1707_o

theorem om_251 {W : Nat → Nat → Bool} {g s : gS} {a0 : Nat} (hg_o : RF g) (hU_o : ∀ a k, mss a k = true → W a k = true) (ea0_o : a0 = 217) (h_o : Fw W g s) : gQ (f_251 a0 s) (fun r => Fw W g r.2.2.2) := by
  subst ea0_o
  unfold f_251
  dsimp only
  refine gQ_loop (fun y_l => y_l.1 = 217 ∧ Fw W g (y_l.2.2.2)) (fun y_l hy_o => ?_) ⟨rfl, (Fw_w h_o rfl (hU_o 217 _ rfl))⟩
  obtain ⟨x1711_o, x1712_o, x1713_o, x1714_o⟩ := y_l
  obtain ⟨e1716_o, h1715_o⟩ := hy_o
  dsimp only at e1716_o h1715_o
  subst e1716_o
  show gQ (sb_251_9 217 x1712_o x1713_o x1714_o) _
  unfold sb_251_9
  refine gQ_ite ?_ ?_
  · refine gQ_ite ?_ ?_
    · unfold fb_251_39
      exact gQ_ret ⟨rfl, h1715_o⟩
    · refine gQ_v1 (A := Fw W g) (om_155 hg_o hU_o rfl h1715_o) (fun v3 s2_l h1717_o => ?_)
      refine gQ_v1 (A := Fw W g) (om_155 hg_o hU_o rfl h1717_o) (fun v5 s4_l h1718_o => ?_)
      refine gQ_ite ?_ ?_
      · unfold fb_251_39
        exact gQ_ret ⟨rfl, h1718_o⟩
      · exact gQ_ret ⟨rfl, h1718_o⟩
  · refine gQ_map ?_
    exact gQ_ret h1715_o

theorem om_253 {W : Nat → Nat → Bool} {g s : gS} {a0 : Nat} {a1 : Int} (hg_o : RF g) (hU_o : ∀ a k, mss a k = true → W a k = true) (ea0_o : a0 = 217) (h_o : Fw W g s) : gQ (f_253 a0 a1 s) (fun r => Fw W g r.2.2.2) := by
  subst ea0_o
  unfold f_253
  dsimp only
  refine gQ_ite ?_ ?_
  · unfold fb_253_15
    refine gQ_v1 (A := Fw W g) (om_252 hg_o hU_o rfl (Fw_w h_o rfl (hU_o 217 _ rfl))) (fun v3 s2_l h1719_o => ?_)
    exact gQ_ret h1719_o
  · unfold fb_253_15
    refine gQ_v1 (A := Fw W g) (om_252 hg_o hU_o rfl (Fw_w h_o rfl (hU_o 217 _ rfl))) (fun v3 s2_l h1720_o => ?_)
    exact gQ_ret h1720_o

theorem om_256 {W : Nat → Nat → Bool} {g s : gS} {a0 : Nat} {a1 : Int} {a2 : Int} (hg_o : RF g) (hU_o : ∀ a k, mss a k = true → W a k = true) (ea0_o : a0 = 217) (h_o : Fw W g s) : gQ (f_256 a0 a1 a2 s) (fun r => Fw W g r.2.2.2) := by
  subst ea0_o
  unfold f_256
  refine gQ_chk2 (fun ha1721_o hb1722_o => ?_)
  exact gQ_ret h_o

theorem om_257 {W : Nat → Nat → Bool} {g s : gS} {a0 : Nat} {a1 : Int} {a2 : Int} (hg_o : RF g) (hU_o : ∀ a k, mss a k = true → W a k = true) (ea0_o : a0 = 217) (h_o : Fw W g s) : gQ (f_257 a0 a1 a2 s) (fun r => Fw W g r.2.2.2) := by
  subst ea0_o
  unfold f_257
  refine gQ_v1 (A := Fw W g) (om_162 hg_o hU_o rfl h_o) (fun v2 s1_l h1723_o => ?_)
  refine gQ_ite ?_ ?_
  · unfold fb_257_14
    dsimp only
    refine gQ_loop (fun y_l => y_l.1 = 217 ∧ Fw W g (y_l.2.2.2.2.2)) (fun y_l hy_o => ?_) ⟨rfl, (Fw_w h1723_o rfl (hU_o 217 _ rfl))⟩
    obtain ⟨x1724_o, x1725_o, x1726_o, x1727_o, x1728_o, x1729_o⟩ := y_l
    obtain ⟨e1731_o, h1730_o⟩ := hy_o
    dsimp only at e1731_o h1730_o
    subst e1731_o
    show gQ (sb_257_22 217 x1725_o x1726_o x1727_o x1728_o x1729_o) _
    unfold sb_257_22
    refine gQ_ite ?_ ?_
    · refine gQ_ite ?_ ?_
      · refine gQ_v1 (A := Fw W g) (om_256 hg_o hU_o rfl h1730_o) (fun v6 s5 h1732_o => ?_)
        refine gQ_ite ?_ ?_
        · refine gQ_ite ?_ ?_
          · exact gQ_ret ⟨rfl, h1732_o⟩
          · refine gQ_v1 (A := Fw W g) (om_256 hg_o hU_o rfl h1732_o) (fun v8 s7 h1733_o => ?_)
            refine gQ_ite ?_ ?_
            · exact gQ_ret ⟨rfl, h1733_o⟩
            · unfold fb_257_72
              exact gQ_ret ⟨rfl, h1733_o⟩
        · unfold fb_257_72
          exact gQ_ret ⟨rfl, h1732_o⟩
      · refine gQ_map ?_
        exact gQ_ret h1730_o
    · refine gQ_map ?_
      exact gQ_ret h1730_o
  · unfold fb_257_14
    dsimp only
    refine gQ_loop (fun y_l => y_l.1 = 217 ∧ Fw W g (y_l.2.2.2.2.2)) (fun y_l hy_o => ?_) ⟨rfl, (Fw_w h1723_o rfl (hU_o 217 _ rfl))⟩
    obtain ⟨x1734_o, x1735_o, x1736_o, x1737_o, x1738_o, x1739_o⟩ := y_l
    obtain ⟨e1741_o, h1740_o⟩ := hy_o
    dsimp only at e1741_o h1740_o
    subst e1741_o
    show gQ (sb_257_22 217 x1735_o x1736_o x1737_o x1738_o x1739_o) _
    unfold sb_257_22
    refine gQ_ite ?_ ?_
    · refine gQ_ite ?_ ?_
      · refine gQ_v1 (A := Fw W g) (om_256 hg_o hU_o rfl h1740_o) (fun v6 s5 h1742_o => ?_)
        refine gQ_ite ?_ ?_
        · refine gQ_ite ?_ ?_
          · exact gQ_ret ⟨rfl, h1742_o⟩
          · refine gQ_v1 (A := Fw W g) (om_256 hg_o hU_o rfl h1742_o) (fun v8 s7 h1743_o => ?_)
            refine gQ_ite ?_ ?_
            · exact gQ_ret ⟨rfl, h1743_o⟩
            · unfold fb_257_72
              exact gQ_ret ⟨rfl, h1743_o⟩
        · unfold fb_257_72
          exact gQ_ret ⟨rfl, h1742_o⟩
      · refine gQ_map ?_
        exact gQ_ret h1740_o
    · refine gQ_map ?_
      exact gQ_ret h1740_o

theorem om_258 {W : Nat → Nat → Bool} {g s : gS} {a0 : Nat} {a1 : Int} {a2 : Int} (hg_o : RF g) (hU_o : ∀ a k, mss a k = true → W a k = true) (ea0_o : a0 = 217) (h_o : Fw W g s) : gQ (f_258 a0 a1 a2 s) (fun r => Fw W g r.2.2.2) := by
  subst ea0_o
  unfold f_258
  refine gQ_v1 (A := Fw W g) (om_150 hg_o hU_o  h_o) (fun v2 s1_l h1744_o => ?_)
  refine gQ_ite ?_ ?_
  · unfold fb_258_15
    dsimp only
    refine gQ_ite ?_ ?_
    · exact gQ_ret (Fw_w h1744_o rfl (hU_o 217 _ rfl))
    · refine gQ_v1 (A := Fw W g) (om_150 hg_o hU_o  (Fw_w h1744_o rfl (hU_o 217 _ rfl))) (fun v6 s5 h1745_o => ?_)
      refine gQ_ite ?_ ?_
      · exact gQ_ret h1745_o
      · refine gQ_v1 (A := Fw W g) (om_256 hg_o hU_o rfl h1745_o) (fun v9 s8 h1746_o => ?_)
        exact gQ_ret h1746_o
  · unfold fb_258_15
    dsimp only
    refine gQ_ite ?_ ?_
    · exact gQ_ret (Fw_w h1744_o rfl (hU_o 217 _ rfl))
    · refine gQ_v1 (A := Fw W g) (om_150 hg_o hU_o  (Fw_w h1744_o rfl (hU_o 217 _ rfl))) (fun v6 s5 h1747_o => ?_)
      refine gQ_ite ?_ ?_
      · exact gQ_ret h1747_o
      · refine gQ_v1 (A := Fw W g) (om_256 hg_o hU_o rfl h1747_o) (fun v9 s8 h1748_o => ?_)
        exact gQ_ret h1748_o

theorem om_263 {W : Nat → Nat → Bool} {g s : gS} {a0 : Nat} {a1 : Int} (hg_o : RF g) (hU_o : ∀ a k, mss a k = true → W a k = true) (ea0_o : a0 = 217) (h_o : Fw W g s) : gQ (f_263 a0 a1 s) (fun r => Fw W g r.2.2.2) := by
  subst ea0_o
  unfold f_263
  dsimp only
  refine gQ_v1 (A := Fw W g) (om_150 hg_o hU_o  (Fw_w h_o rfl (hU_o 217 _ rfl))) (fun v3 s2_l h1749_o => ?_)
  refine gQ_ite ?_ ?_
  · refine gQ_ite ?_ ?_
    · exact gQ_ret h1749_o
    · refine gQ_ite ?_ ?_
      · exact gQ_ret h1749_o
      · refine gQ_ite ?_ ?_
        · exact gQ_ret h1749_o
        · refine gQ_v1 (A := Fw W g) (om_150 hg_o hU_o  h1749_o) (fun v6 s5 h1750_o => ?_)
          refine gQ_ite ?_ ?_
          · refine gQ_ite ?_ ?_
            · refine gQ_loop (fun y_l => y_l.1 = 217 ∧ Fw W g (y_l.2.2.2)) (fun y_l hy_o => ?_) ⟨rfl, h1750_o⟩
              obtain ⟨x1751_o, x1752_o, x1753_o, x1754_o⟩ := y_l
              obtain ⟨e1756_o, h1755_o⟩ := hy_o
              dsimp only at e1756_o h1755_o
              subst e1756_o
              show gQ (sb_263_95 217 x1752_o x1753_o x1754_o) _
              unfold sb_263_95
              refine gQ_ite ?_ ?_
              · refine gQ_v1 (A := Fw W g) (om_165 hg_o hU_o rfl h1755_o) (fun v9 s8 h1757_o => ?_)
                refine gQ_ite ?_ ?_
                · exact gQ_ret ⟨rfl, h1757_o⟩
                · refine gQ_v1 (A := Fw W g) (om_156 hg_o hU_o rfl h1757_o) (fun v12 s11 h1758_o => ?_)
                  exact gQ_ret ⟨rfl, h1758_o⟩
              · refine gQ_map ?_
                exact gQ_ret h1755_o
            · refine gQ_ite ?_ ?_
              · exact gQ_ret h1750_o
              · refine gQ_ite ?_ ?_
                · exact gQ_ret h1750_o
                · exact gQ_ret h1750_o
          · refine gQ_chk2 (fun ha1759_o hb1760_o => ?_)
            exact gQ_ret h1750_o
  · refine gQ_chk2 (fun ha1761_o hb1762_o => ?_)
    exact gQ_ret h1749_o
