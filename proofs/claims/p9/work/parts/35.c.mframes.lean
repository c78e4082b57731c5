/-- the model's own drafts; and what days and acts change of its row -/
def mss (a k : Nat) : Bool := (Nat.ble 223 a && Nat.ble a 230) || (Nat.beq a 217 && !(Nat.beq k 3 || Nat.beq k 6))
def mnt (k : Nat) : Bool := (Nat.ble 7 k && Nat.ble k 9) || ((Nat.ble 13 k && Nat.ble k 14) || ((Nat.ble 40 k && (Nat.ble k 75 && !Nat.beq (k % 6) 0)) || (Nat.ble 88 k && Nat.ble k 339)))
def msd (a k : Nat) : Bool := mss a k || (Nat.beq a 218 && mnt k)
theorem mqd_o {W : Nat → Nat → Bool} (h : ∀ a k, msd a k = true → W a k = true) : ∀ a k, mss a k = true → W a k = true := fun a k hq => h a k (by
  unfold msd
  rw [hq]
  rfl)
section Mq
variable {W : Nat → Nat → Bool} {g s : gS}
theorem om_266 {a : Nat} (h : Fw W g s) : gQ (f_266 a s) (fun r => Fw W g r.2.2.2) := gQ_ret h
theorem om_267 {a : Nat} {j : Int} (h : Fw W g s) : gQ (f_267 a j s) (fun r => Fw W g r.2.2.2) := gQ_chk (gQ_ret h)
/-- the law's reading -/
theorem om_184 {a0 : Nat} {a1 : Int} (hg : RF g) (hU : ∀ a k, mss a k = true → W a k = true) (e0 : a0 = 217) (e1 : a1 = 1) (h : Fw W g s) : gQ (f_184 a0 a1 s) (fun r => Fw W g r.2.2.2) := by
  subst e0 e1
  intro r hr
  have hE : Eg s s := ⟨⟨rfl, rfl, rfl⟩, ⟨fr_r h rfl (rr_217_1 hg), fr_r h rfl (rr_217_7 hg), fr_r h rfl (rr_217_14 hg), fr_r h rfl (rr_217_22 hg)⟩, fun _ _ _ => rfl⟩
  have hq := o_184 hE r hr
  obtain ⟨⟨q1_l, q2_l, q3_l⟩, -, q4_l⟩ := hq
  have hn : gn r.2.2.2 = gn s := q1_l
  refine ⟨⟨h.1.1, by rw [hn]; exact h.1.2.1, fun a ha_l => ?_⟩, fun a k ha_l => ?_, fun a k ha_l hf => ?_⟩
  · show r.2.2.2.2.1 a = _
    rw [q2_l]
    exact h.1.2.2 a ha_l
  · show r.2.2.2.2.2.2 a k = _
    rw [q3_l]
    exact h.2.1 a k ha_l
  · refine (q4_l a k ?_).trans (h.2.2 a k ha_l hf)
    cases hc : scb a k with
    | false => rfl
    | true =>
      have hm_l : mss a k = true := by
        unfold scb at hc
        unfold mss
        simp only [Bool.or_eq_true, Bool.and_eq_true, es_beq, es_blt, Nat.ble_eq, Bool.not_eq_true', Bool.or_eq_false_iff, es_beqf] at hc ⊢
        omega
      rw [hU a k hm_l] at hf
      cases hf
end Mq
theorem om_150 {W : Nat → Nat → Bool} {g s : gS} {a0 : Int} {a1 : Int} {a2 : Int} (hg_o : RF g) (hU_o : ∀ a k, mss a k = true → W a k = true)  (h_o : Fw W g s) : gQ (f_150 a0 a1 a2 s) (fun r => Fw W g r.2.2.2) := by
  unfold f_150
  refine gQ_ite ?_ ?_
  · unfold fb_150_14
    exact gQ_ret h_o
  · refine gQ_ite ?_ ?_
    · unfold fb_150_14
      exact gQ_ret h_o
    · exact gQ_ret h_o

theorem om_151 {W : Nat → Nat → Bool} {g s : gS} {a0 : Int} {a1 : Int} (hg_o : RF g) (hU_o : ∀ a k, mss a k = true → W a k = true)  (h_o : Fw W g s) : gQ (f_151 a0 a1 s) (fun r => Fw W g r.2.2.2) := by
  unfold f_151
  refine gQ_ite ?_ ?_
  · exact gQ_ret h_o
  · exact gQ_ret h_o

theorem om_152 {W : Nat → Nat → Bool} {g s : gS} {a0 : Int} {a1 : Int} (hg_o : RF g) (hU_o : ∀ a k, mss a k = true → W a k = true)  (h_o : Fw W g s) : gQ (f_152 a0 a1 s) (fun r => Fw W g r.2.2.2) := by
  unfold f_152
  refine gQ_ite ?_ ?_
  · exact gQ_ret h_o
  · exact gQ_ret h_o

theorem om_153 {W : Nat → Nat → Bool} {g s : gS} {a0 : Int} {a1 : Int} (hg_o : RF g) (hU_o : ∀ a k, mss a k = true → W a k = true)  (h_o : Fw W g s) : gQ (f_153 a0 a1 s) (fun r => Fw W g r.2.2.2) := by
  unfold f_153
  refine gQ_ite ?_ ?_
  · exact gQ_ret h_o
  · exact gQ_ret h_o

theorem om_154 {W : Nat → Nat → Bool} {g s : gS} {a0 : Int} (hg_o : RF g) (hU_o : ∀ a k, mss a k = true → W a k = true)  (h_o : Fw W g s) : gQ (f_154 a0 s) (fun r => Fw W g r.2.2.2) := by
  unfold f_154
  refine gQ_loop (fun y_l => Fw W g (y_l.2.2.2)) (fun y_l hy_o => ?_) h_o
  obtain ⟨x708_o, x709_o, x710_o, x711_o⟩ := y_l
  have h712_o := hy_o
  dsimp only at h712_o
  show gQ (sb_154_4 x708_o x709_o x710_o x711_o) _
  unfold sb_154_4
  dsimp only
  refine gQ_ite ?_ ?_
  · exact gQ_ret h712_o
  · refine gQ_map ?_
    exact gQ_ret h712_o

theorem om_155 {W : Nat → Nat → Bool} {g s : gS} {a0 : Nat} {a1 : Int} {a2 : Int} (hg_o : RF g) (hU_o : ∀ a k, mss a k = true → W a k = true) (ea0_o : a0 = 217) (h_o : Fw W g s) : gQ (f_155 a0 a1 a2 s) (fun r => Fw W g r.2.2.2) := by
  subst ea0_o
  unfold f_155
  refine gQ_chk2 (fun ha713_o hb714_o => ?_)
  exact gQ_ret h_o

theorem om_156 {W : Nat → Nat → Bool} {g s : gS} {a0 : Nat} {a1 : Int} {a2 : Int} (hg_o : RF g) (hU_o : ∀ a k, mss a k = true → W a k = true) (ea0_o : a0 = 217) (h_o : Fw W g s) : gQ (f_156 a0 a1 a2 s) (fun r => Fw W g r.2.2.2) := by
  subst ea0_o
  unfold f_156
  refine gQ_chk2 (fun ha715_o hb716_o => ?_)
  exact gQ_ret h_o

theorem om_158 {W : Nat → Nat → Bool} {g s : gS} {a0 : Nat} {a1 : Int} (hg_o : RF g) (hU_o : ∀ a k, mss a k = true → W a k = true) (ea0_o : a0 = 217) (h_o : Fw W g s) : gQ (f_158 a0 a1 s) (fun r => Fw W g r.2.2.2) := by
  subst ea0_o
  unfold f_158
  refine gQ_chk2 (fun ha717_o hb718_o => ?_)
  exact gQ_ret h_o

theorem om_159 {W : Nat → Nat → Bool} {g s : gS} {a0 : Nat} {a1 : Int} (hg_o : RF g) (hU_o : ∀ a k, mss a k = true → W a k = true) (ea0_o : a0 = 217) (h_o : Fw W g s) : gQ (f_159 a0 a1 s) (fun r => Fw W g r.2.2.2) := by
  subst ea0_o
  unfold f_159
  refine gQ_chk2 (fun ha719_o hb720_o => ?_)
  exact gQ_ret h_o

theorem om_160 {W : Nat → Nat → Bool} {g s : gS} {a0 : Nat} {a1 : Int} {a2 : Int} (hg_o : RF g) (hU_o : ∀ a k, mss a k = true → W a k = true) (ea0_o : a0 = 217) (h_o : Fw W g s) : gQ (f_160 a0 a1 a2 s) (fun r => Fw W g r.2.2.2) := by
  subst ea0_o
  unfold f_160
  refine gQ_chk2 (fun ha721_o hb722_o => ?_)
  exact gQ_ret h_o

theorem om_161 {W : Nat → Nat → Bool} {g s : gS} {a0 : Nat} {a1 : Int} (hg_o : RF g) (hU_o : ∀ a k, mss a k = true → W a k = true) (ea0_o : a0 = 217) (h_o : Fw W g s) : gQ (f_161 a0 a1 s) (fun r => Fw W g r.2.2.2) := by
  subst ea0_o
  unfold f_161
  refine gQ_v1 (A := Fw W g) (om_150 hg_o hU_o  h_o) (fun v2 s1_l h723_o => ?_)
  exact gQ_ret h723_o

theorem om_162 {W : Nat → Nat → Bool} {g s : gS} {a0 : Nat} {a1 : Int} (hg_o : RF g) (hU_o : ∀ a k, mss a k = true → W a k = true) (ea0_o : a0 = 217) (h_o : Fw W g s) : gQ (f_162 a0 a1 s) (fun r => Fw W g r.2.2.2) := by
  subst ea0_o
  unfold f_162
  refine gQ_v1 (A := Fw W g) (om_150 hg_o hU_o  h_o) (fun v2 s1_l h724_o => ?_)
  exact gQ_ret h724_o

theorem om_163 {W : Nat → Nat → Bool} {g s : gS} {a0 : Nat} {a1 : Int} (hg_o : RF g) (hU_o : ∀ a k, mss a k = true → W a k = true) (ea0_o : a0 = 217) (h_o : Fw W g s) : gQ (f_163 a0 a1 s) (fun r => Fw W g r.2.2.2) := by
  subst ea0_o
  unfold f_163
  refine gQ_v1 (A := Fw W g) (om_150 hg_o hU_o  h_o) (fun v2 s1_l h725_o => ?_)
  exact gQ_ret h725_o

theorem om_164 {W : Nat → Nat → Bool} {g s : gS} {a0 : Nat} {a1 : Int} (hg_o : RF g) (hU_o : ∀ a k, mss a k = true → W a k = true) (ea0_o : a0 = 217) (h_o : Fw W g s) : gQ (f_164 a0 a1 s) (fun r => Fw W g r.2.2.2) := by
  subst ea0_o
  unfold f_164
  refine gQ_v1 (A := Fw W g) (om_150 hg_o hU_o  h_o) (fun v2 s1_l h726_o => ?_)
  exact gQ_ret h726_o

theorem om_165 {W : Nat → Nat → Bool} {g s : gS} {a0 : Nat} {a1 : Int} (hg_o : RF g) (hU_o : ∀ a k, mss a k = true → W a k = true) (ea0_o : a0 = 217) (h_o : Fw W g s) : gQ (f_165 a0 a1 s) (fun r => Fw W g r.2.2.2) := by
  subst ea0_o
  unfold f_165
  refine gQ_v1 (A := Fw W g) (om_156 hg_o hU_o rfl h_o) (fun v2 s1_l h727_o => ?_)
  refine gQ_ite ?_ ?_
  · exact gQ_ret h727_o
  · exact gQ_ret h727_o

theorem om_197 {W : Nat → Nat → Bool} {g s : gS} {a0 : Nat} {a1 : Int} {a2 : Int} {a3 : Int} {a4 : Int} {a5 : Int} {a6 : Int} {a7 : Int} (hg_o : RF g) (hU_o : ∀ a k, mss a k = true → W a k = true) (ea0_o : a0 = 217) (h_o : Fw W g s) : gQ (f_197 a0 a1 a2 a3 a4 a5 a6 a7 s) (fun r => Fw W g r.2.2.2) := by
  subst ea0_o
  unfold f_197
  dsimp only
  refine gQ_ite ?_ ?_
  · exact gQ_ret h_o
  · refine gQ_ite ?_ ?_
    · unfold fb_197_80
      dsimp only
      refine gQ_bool ?_
      refine gQ_ite ?_ ?_
      · unfold fb_197_100
        dsimp only
        refine gQ_bool ?_
        refine gQ_v1 (A := Fw W g) (om_184 hg_o hU_o rfl rfl (Fw_w (Fw_w (Fw_w (Fw_w (Fw_w (Fw_w (Fw_w (Fw_w (Fw_w (Fw_w (Fw_w (Fw_w (Fw_w (Fw_w (Fw_w h_o (fr_r h_o rfl (rr_217_14 hg_o)) (hU_o 223 _ rfl)) (fr_r (Fw_w h_o (fr_r h_o rfl (rr_217_14 hg_o)) (hU_o 223 _ rfl)) rfl (rr_217_14 hg_o)) (hU_o 223 _ rfl)) (fr_r (Fw_w (Fw_w h_o (fr_r h_o rfl (rr_217_14 hg_o)) (hU_o 223 _ rfl)) (fr_r (Fw_w h_o (fr_r h_o rfl (rr_217_14 hg_o)) (hU_o 223 _ rfl)) rfl (rr_217_14 hg_o)) (hU_o 223 _ rfl)) rfl (rr_217_14 hg_o)) (hU_o 223 _ rfl)) (fr_r (Fw_w (Fw_w (Fw_w h_o (fr_r h_o rfl (rr_217_14 hg_o)) (hU_o 223 _ rfl)) (fr_r (Fw_w h_o (fr_r h_o rfl (rr_217_14 hg_o)) (hU_o 223 _ rfl)) rfl (rr_217_14 hg_o)) (hU_o 223 _ rfl)) (fr_r (Fw_w (Fw_w h_o (fr_r h_o rfl (rr_217_14 hg_o)) (hU_o 223 _ rfl)) (fr_r (Fw_w h_o (fr_r h_o rfl (rr_217_14 hg_o)) (hU_o 223 _ rfl)) rfl (rr_217_14 hg_o)) (hU_o 223 _ rfl)) rfl (rr_217_14 hg_o)) (hU_o 223 _ rfl)) rfl (rr_217_14 hg_o)) (hU_o 223 _ rfl)) (fr_r (Fw_w (Fw_w (Fw_w (Fw_w h_o (fr_r h_o rfl (rr_217_14 hg_o)) (hU_o 223 _ rfl)) (fr_r (Fw_w h_o (fr_r h_o rfl (rr_217_14 hg_o)) (hU_o 223 _ rfl)) rfl (rr_217_14 hg_o)) (hU_o 223 _ rfl)) (fr_r (Fw_w (Fw_w h_o (fr_r h_o rfl (rr_217_14 hg_o)) (hU_o 223 _ rfl)) (fr_r (Fw_w h_o (fr_r h_o rfl (rr_217_14 hg_o)) (hU_o 223 _ rfl)) rfl (rr_217_14 hg_o)) (hU_o 223 _ rfl)) rfl (rr_217_14 hg_o)) (hU_o 223 _ rfl)) (fr_r (Fw_w (Fw_w (Fw_w h_o (fr_r h_o rfl (rr_217_14 hg_o)) (hU_o 223 _ rfl)) (fr_r (Fw_w h_o (fr_r h_o rfl (rr_217_14 hg_o)) (hU_o 223 _ rfl)) rfl (rr_217_14 hg_o)) (hU_o 223 _ rfl)) (fr_r (Fw_w (Fw_w h_o (fr_r h_o rfl (rr_217_14 hg_o)) (hU_o 223 _ rfl)) (fr_r (Fw_w h_o (fr_r h_o rfl (rr_217_14 hg_o)) (hU_o 223 _ rfl)) rfl (rr_217_14 hg_o)) (hU_o 223 _ rfl)) rfl (rr_217_14 hg_o)) (hU_o 223 _ rfl)) rfl (rr_217_14 hg_o)) (hU_o 223 _ rfl)) rfl (rr_217_14 hg_o)) (hU_o 223 _ rfl)) (fr_r (Fw_w (Fw_w (Fw_w (Fw_w (Fw_w h_o (fr_r h_o rfl (rr_217_14 hg_o)) (hU_o 223 _ rfl)) (fr_r (Fw_w h_o (fr_r h_o rfl (rr_217_14 hg_o)) (hU_o 223 _ rfl)) rfl (rr_217_14 hg_o)) (hU_o 223 _ rfl)) (fr_r (Fw_w (Fw_w h_o (fr_r h_o rfl (rr_217_14 hg_o)) (hU_o 223 _ rfl)) (fr_r (Fw_w h_o (fr_r h_o rfl (rr_217_14 hg_o)) (hU_o 223 _ rfl)) rfl (rr_217_14 hg_o)) (hU_o 223 _ rfl)) rfl (rr_217_14 hg_o)) (hU_o 223 _ rfl)) (fr_r (Fw_w (Fw_w (Fw_w h_o (fr_r h_o rfl (rr_217_14 hg_o)) (hU_o 223 _ rfl)) (fr_r (Fw_w h_o (fr_r h_o rfl (rr_217_14 hg_o)) (hU_o 223 _ rfl)) rfl (rr_217_14 hg_o)) (hU_o 223 _ rfl)) (fr_r (Fw_w (Fw_w h_o (fr_r h_o rfl (rr_217_14 hg_o)) (hU_o 223 _ rfl)) (fr_r (Fw_w h_o (fr_r h_o rfl (rr_217_14 hg_o)) (hU_o 223 _ rfl)) rfl (rr_217_14 hg_o)) (hU_o 223 _ rfl)) rfl (rr_217_14 hg_o)) (hU_o 223 _ rfl)) rfl (rr_217_14 hg_o)) (hU_o 223 _ rfl)) (fr_r (Fw_w (Fw_w (Fw_w (Fw_w h_o (fr_r h_o rfl (rr_217_14 hg_o)) (hU_o 223 _ rfl)) (fr_r (Fw_w h_o (fr_r h_o rfl (rr_217_14 hg_o)) (hU_o 223 _ rfl)) rfl (rr_217_14 hg_o)) (hU_o 223 _ rfl)) (fr_r (Fw_w (Fw_w h_o (fr_r h_o rfl (rr_217_14 hg_o)) (hU_o 223 _ rfl)) (fr_r (Fw_w h_o (fr_r h_o rfl (rr_217_14 hg_o)) (hU_o 223 _ rfl)) rfl (rr_217_14 hg_o)) (hU_o 223 _ rfl)) rfl (rr_217_14 hg_o)) (hU_o 223 _ rfl)) (fr_r (Fw_w (Fw_w (Fw_w h_o (fr_r h_o rfl (rr_217_14 hg_o)) (hU_o 223 _ rfl)) (fr_r (Fw_w h_o (fr_r h_o rfl (rr_217_14 hg_o)) (hU_o 223 _ rfl)) rfl (rr_217_14 hg_o)) (hU_o 223 _ rfl)) (fr_r (Fw_w (Fw_w h_o (fr_r h_o rfl (rr_217_14 hg_o)) (hU_o 223 _ rfl)) (fr_r (Fw_w h_o (fr_r h_o rfl (rr_217_14 hg_o)) (hU_o 223 _ rfl)) rfl (rr_217_14 hg_o)) (hU_o 223 _ rfl)) rfl (rr_217_14 hg_o)) (hU_o 223 _ rfl)) rfl (rr_217_14 hg_o)) (hU_o 223 _ rfl)) rfl (rr_217_14 hg_o)) (hU_o 223 _ rfl)) rfl (rr_217_14 hg_o)) (hU_o 223 _ rfl)) (fr_r (Fw_w (Fw_w (Fw_w (Fw_w (Fw_w (Fw_w h_o (fr_r h_o rfl (rr_217_14 hg_o)) (hU_o 223 _ rfl)) (fr_r (Fw_w h_o (fr_r h_o rfl (rr_217_14 hg_o)) (hU_o 223 _ rfl)) rfl (rr_217_14 hg_o)) (hU_o 223 _ rfl)) (fr_r (Fw_w (Fw_w h_o (fr_r h_o rfl (rr_217_14 hg_o)) (hU_o 223 _ rfl)) (fr_r (Fw_w h_o (fr_r h_o rfl (rr_217_14 hg_o)) (hU_o 223 _ rfl)) rfl (rr_217_14 hg_o)) (hU_o 223 _ rfl)) rfl (rr_217_14 hg_o)) (hU_o 223 _ rfl)) (fr_r (Fw_w (Fw_w (Fw_w h_o (fr_r h_o rfl (rr_217_14 hg_o)) (hU_o 223 _ rfl)) (fr_r (Fw_w h_o (fr_r h_o rfl (rr_217_14 hg_o)) (hU_o 223 _ rfl)) rfl (rr_217_14 hg_o)) (hU_o 223 _ rfl)) (fr_r (Fw_w (Fw_w h_o (fr_r h_o rfl (rr_217_14 hg_o)) (hU_o 223 _ rfl)) (fr_r (Fw_w h_o (fr_r h_o rfl (rr_217_14 hg_o)) (hU_o 223 _ rfl)) rfl (rr_217_14 hg_o)) (hU_o 223 _ rfl)) rfl (rr_217_14 hg_o)) (hU_o 223 _ rfl)) rfl (rr_217_14 hg_o)) (hU_o 223 _ rfl)) (fr_r (Fw_w (Fw_w (Fw_w (Fw_w h_o (fr_r h_o rfl (rr_217_14 hg_o)) (hU_o 223 _ rfl)) (fr_r (Fw_w h_o (fr_r h_o rfl (rr_217_14 hg_o)) (hU_o 223 _ rfl)) rfl (rr_217_14 hg_o)) (hU_o 223 _ rfl)) (fr_r (Fw_w (Fw_w h_o (fr_r h_o rfl (rr_217_14 hg_o)) (hU_o 223 _ rfl)) (fr_r (Fw_w h_o (fr_r h_o rfl (rr_217_14 hg_o)) (hU_o 223 _ rfl)) rfl (rr_217_14 hg_o)) (hU_o 223 _ rfl)) rfl (rr_217_14 hg_o)) (hU_o 223 _ rfl)) (fr_r (Fw_w (Fw_w (Fw_w h_o (fr_r h_o rfl (rr_217_14 hg_o)) (hU_o 223 _ rfl)) (fr_r (Fw_w h_o (fr_r h_o rfl (rr_217_14 hg_o)) (hU_o 223 _ rfl)) rfl (rr_217_14 hg_o)) (hU_o 223 _ rfl)) (fr_r (Fw_w (Fw_w h_o (fr_r h_o rfl (rr_217_14 hg_o)) (hU_o 223 _ rfl)) (fr_r (Fw_w h_o (fr_r h_o rfl (rr_217_14 hg_o)) (hU_o 223 _ rfl)) rfl (rr_217_14 hg_o)) (hU_o 223 _ rfl)) rfl (rr_217_14 hg_o)) (hU_o 223 _ rfl)) rfl (rr_217_14 hg_o)) (hU_o 223 _ rfl)) rfl (rr_217_14 hg_o)) (hU_o 223 _ rfl)) (fr_r (Fw_w (Fw_w (Fw_w (Fw_w (Fw_w h_o (fr_r h_o rfl (rr_217_14 hg_o)) (hU_o 223 _ rfl)) (fr_r (Fw_w h_o (fr_r h_o rfl (rr_217_14 hg_o)) (hU_o 223 _ rfl)) rfl (rr_217_14 hg_o)) (hU_o 223 _ rfl)) (fr_r (Fw_w (Fw_w h_o (fr_r h_o rfl (rr_217_14 hg_o)) (hU_o 223 _ rfl)) (fr_r (Fw_w h_o (fr_r h_o rfl (rr_217_14 hg_o)) (hU_o 223 _ rfl)) rfl (rr_217_14 hg_o)) (hU_o 223 _ rfl)) rfl (rr_217_14 hg_o)) (hU_o 223 _ rfl)) (fr_r (Fw_w (Fw_w (Fw_w h_o (fr_r h_o rfl (rr_217_14 hg_o)) (hU_o 223 _ rfl)) (fr_r (Fw_w h_o (fr_r h_o rfl (rr_217_14 hg_o)) (hU_o 223 _ rfl)) rfl (rr_217_14 hg_o)) (hU_o 223 _ rfl)) (fr_r (Fw_w (Fw_w h_o (fr_r h_o rfl (rr_217_14 hg_o)) (hU_o 223 _ rfl)) (fr_r (Fw_w h_o (fr_r h_o rfl (rr_217_14 hg_o)) (hU_o 223 _ rfl)) rfl (rr_217_14 hg_o)) (hU_o 223 _ rfl)) rfl (rr_217_14 hg_o)) (hU_o 223 _ rfl)) rfl (rr_217_14 hg_o)) (hU_o 223 _ rfl)) (fr_r (Fw_w (Fw_w (Fw_w (Fw_w h_o (fr_r h_o rfl (rr_217_14 hg_o)) (hU_o 223 _ rfl)) (fr_r (Fw_w h_o (fr_r h_o rfl (rr_217_14 hg_o)) (hU_o 223 _ rfl)) rfl (rr_217_14 hg_o)) (hU_o 223 _ rfl)) (fr_r (Fw_w (Fw_w h_o (fr_r h_o rfl (rr_217_14 hg_o)) (hU_o 223 _ rfl)) (fr_r (Fw_w h_o (fr_r h_o rfl (rr_217_14 hg_o)) (hU_o 223 _ rfl)) rfl (rr_217_14 hg_o)) (hU_o 223 _ rfl)) rfl (rr_217_14 hg_o)) (hU_o 223 _ rfl)) (fr_r (Fw_w (Fw_w (Fw_w h_o (fr_r h_o rfl (rr_217_14 hg_o)) (hU_o 223 _ rfl)) (fr_r (Fw_w h_o (fr_r h_o rfl (rr_217_14 hg_o)) (hU_o 223 _ rfl)) rfl (rr_217_14 hg_o)) (hU_o 223 _ rfl)) (fr_r (Fw_w (Fw_w h_o (fr_r h_o rfl (rr_217_14 hg_o)) (hU_o 223 _ rfl)) (fr_r (Fw_w h_o (fr_r h_o rfl (rr_217_14 hg_o)) (hU_o 223 _ rfl)) rfl (rr_217_14 hg_o)) (hU_o 223 _ rfl)) rfl (rr_217_14 hg_o)) (hU_o 223 _ rfl)) rfl (rr_217_14 hg_o)) (hU_o 223 _ rfl)) rfl (rr_217_14 hg_o)) (hU_o 223 _ rfl)) rfl (rr_217_14 hg_o)) (hU_o 223 _ rfl)) rfl (rr_217_14 hg_o)) (hU_o 223 _ rfl)) rfl (hU_o 217 _ rfl)) rfl (hU_o 217 _ rfl)) rfl (hU_o 217 _ rfl)) rfl (hU_o 217 _ rfl)) rfl (hU_o 217 _ rfl)) rfl (hU_o 217 _ rfl)) rfl (hU_o 217 _ rfl)) rfl (hU_o 217 _ rfl))) (fun v17 s16 h728_o => ?_)
        exact gQ_ret (Fw_w h728_o rfl (hU_o 217 _ rfl))
      · unfold fb_197_100
        dsimp only
        refine gQ_bool ?_
        refine gQ_v1 (A := Fw W g) (om_184 hg_o hU_o rfl rfl (Fw_w (Fw_w (Fw_w (Fw_w (Fw_w (Fw_w (Fw_w (Fw_w (Fw_w (Fw_w (Fw_w (Fw_w (Fw_w (Fw_w (Fw_w h_o (fr_r h_o rfl (rr_217_14 hg_o)) (hU_o 223 _ rfl)) (fr_r (Fw_w h_o (fr_r h_o rfl (rr_217_14 hg_o)) (hU_o 223 _ rfl)) rfl (rr_217_14 hg_o)) (hU_o 223 _ rfl)) (fr_r (Fw_w (Fw_w h_o (fr_r h_o rfl (rr_217_14 hg_o)) (hU_o 223 _ rfl)) (fr_r (Fw_w h_o (fr_r h_o rfl (rr_217_14 hg_o)) (hU_o 223 _ rfl)) rfl (rr_217_14 hg_o)) (hU_o 223 _ rfl)) rfl (rr_217_14 hg_o)) (hU_o 223 _ rfl)) (fr_r (Fw_w (Fw_w (Fw_w h_o (fr_r h_o rfl (rr_217_14 hg_o)) (hU_o 223 _ rfl)) (fr_r (Fw_w h_o (fr_r h_o rfl (rr_217_14 hg_o)) (hU_o 223 _ rfl)) rfl (rr_217_14 hg_o)) (hU_o 223 _ rfl)) (fr_r (Fw_w (Fw_w h_o (fr_r h_o rfl (rr_217_14 hg_o)) (hU_o 223 _ rfl)) (fr_r (Fw_w h_o (fr_r h_o rfl (rr_217_14 hg_o)) (hU_o 223 _ rfl)) rfl (rr_217_14 hg_o)) (hU_o 223 _ rfl)) rfl (rr_217_14 hg_o)) (hU_o 223 _ rfl)) rfl (rr_217_14 hg_o)) (hU_o 223 _ rfl)) (fr_r (Fw_w (Fw_w (Fw_w (Fw_w h_o (fr_r h_o rfl (rr_217_14 hg_o)) (hU_o 223 _ rfl)) (fr_r (Fw_w h_o (fr_r h_o rfl (rr_217_14 hg_o)) (hU_o 223 _ rfl)) rfl (rr_217_14 hg_o)) (hU_o 223 _ rfl)) (fr_r (Fw_w (Fw_w h_o (fr_r h_o rfl (rr_217_14 hg_o)) (hU_o 223 _ rfl)) (fr_r (Fw_w h_o (fr_r h_o rfl (rr_217_14 hg_o)) (hU_o 223 _ rfl)) rfl (rr_217_14 hg_o)) (hU_o 223 _ rfl)) rfl (rr_217_14 hg_o)) (hU_o 223 _ rfl)) (fr_r (Fw_w (Fw_w (Fw_w h_o (fr_r h_o rfl (rr_217_14 hg_o)) (hU_o 223 _ rfl)) (fr_r (Fw_w h_o (fr_r h_o rfl (rr_217_14 hg_o)) (hU_o 223 _ rfl)) rfl (rr_217_14 hg_o)) (hU_o 223 _ rfl)) (fr_r (Fw_w (Fw_w h_o (fr_r h_o rfl (rr_217_14 hg_o)) (hU_o 223 _ rfl)) (fr_r (Fw_w h_o (fr_r h_o rfl (rr_217_14 hg_o)) (hU_o 223 _ rfl)) rfl (rr_217_14 hg_o)) (hU_o 223 _ rfl)) rfl (rr_217_14 hg_o)) (hU_o 223 _ rfl)) rfl (rr_217_14 hg_o)) (hU_o 223 _ rfl)) rfl (rr_217_14 hg_o)) (hU_o 223 _ rfl)) (fr_r (Fw_w (Fw_w (Fw_w (Fw_w (Fw_w h_o (fr_r h_o rfl (rr_217_14 hg_o)) (hU_o 223 _ rfl)) (fr_r (Fw_w h_o (fr_r h_o rfl (rr_217_14 hg_o)) (hU_o 223 _ rfl)) rfl (rr_217_14 hg_o)) (hU_o 223 _ rfl)) (fr_r (Fw_w (Fw_w h_o (fr_r h_o rfl (rr_217_14 hg_o)) (hU_o 223 _ rfl)) (fr_r (Fw_w h_o (fr_r h_o rfl (rr_217_14 hg_o)) (hU_o 223 _ rfl)) rfl (rr_217_14 hg_o)) (hU_o 223 _ rfl)) rfl (rr_217_14 hg_o)) (hU_o 223 _ rfl)) (fr_r (Fw_w (Fw_w (Fw_w h_o (fr_r h_o rfl (rr_217_14 hg_o)) (hU_o 223 _ rfl)) (fr_r (Fw_w h_o (fr_r h_o rfl (rr_217_14 hg_o)) (hU_o 223 _ rfl)) rfl (rr_217_14 hg_o)) (hU_o 223 _ rfl)) (fr_r (Fw_w (Fw_w h_o (fr_r h_o rfl (rr_217_14 hg_o)) (hU_o 223 _ rfl)) (fr_r (Fw_w h_o (fr_r h_o rfl (rr_217_14 hg_o)) (hU_o 223 _ rfl)) rfl (rr_217_14 hg_o)) (hU_o 223 _ rfl)) rfl (rr_217_14 hg_o)) (hU_o 223 _ rfl)) rfl (rr_217_14 hg_o)) (hU_o 223 _ rfl)) (fr_r (Fw_w (Fw_w (Fw_w (Fw_w h_o (fr_r h_o rfl (rr_217_14 hg_o)) (hU_o 223 _ rfl)) (fr_r (Fw_w h_o (fr_r h_o rfl (rr_217_14 hg_o)) (hU_o 223 _ rfl)) rfl (rr_217_14 hg_o)) (hU_o 223 _ rfl)) (fr_r (Fw_w (Fw_w h_o (fr_r h_o rfl (rr_217_14 hg_o)) (hU_o 223 _ rfl)) (fr_r (Fw_w h_o (fr_r h_o rfl (rr_217_14 hg_o)) (hU_o 223 _ rfl)) rfl (rr_217_14 hg_o)) (hU_o 223 _ rfl)) rfl (rr_217_14 hg_o)) (hU_o 223 _ rfl)) (fr_r (Fw_w (Fw_w (Fw_w h_o (fr_r h_o rfl (rr_217_14 hg_o)) (hU_o 223 _ rfl)) (fr_r (Fw_w h_o (fr_r h_o rfl (rr_217_14 hg_o)) (hU_o 223 _ rfl)) rfl (rr_217_14 hg_o)) (hU_o 223 _ rfl)) (fr_r (Fw_w (Fw_w h_o (fr_r h_o rfl (rr_217_14 hg_o)) (hU_o 223 _ rfl)) (fr_r (Fw_w h_o (fr_r h_o rfl (rr_217_14 hg_o)) (hU_o 223 _ rfl)) rfl (rr_217_14 hg_o)) (hU_o 223 _ rfl)) rfl (rr_217_14 hg_o)) (hU_o 223 _ rfl)) rfl (rr_217_14 hg_o)) (hU_o 223 _ rfl)) rfl (rr_217_14 hg_o)) (hU_o 223 _ rfl)) rfl (rr_217_14 hg_o)) (hU_o 223 _ rfl)) (fr_r (Fw_w (Fw_w (Fw_w (Fw_w (Fw_w (Fw_w h_o (fr_r h_o rfl (rr_217_14 hg_o)) (hU_o 223 _ rfl)) (fr_r (Fw_w h_o (fr_r h_o rfl (rr_217_14 hg_o)) (hU_o 223 _ rfl)) rfl (rr_217_14 hg_o)) (hU_o 223 _ rfl)) (fr_r (Fw_w (Fw_w h_o (fr_r h_o rfl (rr_217_14 hg_o)) (hU_o 223 _ rfl)) (fr_r (Fw_w h_o (fr_r h_o rfl (rr_217_14 hg_o)) (hU_o 223 _ rfl)) rfl (rr_217_14 hg_o)) (hU_o 223 _ rfl)) rfl (rr_217_14 hg_o)) (hU_o 223 _ rfl)) (fr_r (Fw_w (Fw_w (Fw_w h_o (fr_r h_o rfl (rr_217_14 hg_o)) (hU_o 223 _ rfl)) (fr_r (Fw_w h_o (fr_r h_o rfl (rr_217_14 hg_o)) (hU_o 223 _ rfl)) rfl (rr_217_14 hg_o)) (hU_o 223 _ rfl)) (fr_r (Fw_w (Fw_w h_o (fr_r h_o rfl (rr_217_14 hg_o)) (hU_o 223 _ rfl)) (fr_r (Fw_w h_o (fr_r h_o rfl (rr_217_14 hg_o)) (hU_o 223 _ rfl)) rfl (rr_217_14 hg_o)) (hU_o 223 _ rfl)) rfl (rr_217_14 hg_o)) (hU_o 223 _ rfl)) rfl (rr_217_14 hg_o)) (hU_o 223 _ rfl)) (fr_r (Fw_w (Fw_w (Fw_w (Fw_w h_o (fr_r h_o rfl (rr_217_14 hg_o)) (hU_o 223 _ rfl)) (fr_r (Fw_w h_o (fr_r h_o rfl (rr_217_14 hg_o)) (hU_o 223 _ rfl)) rfl (rr_217_14 hg_o)) (hU_o 223 _ rfl)) (fr_r (Fw_w (Fw_w h_o (fr_r h_o rfl (rr_217_14 hg_o)) (hU_o 223 _ rfl)) (fr_r (Fw_w h_o (fr_r h_o rfl (rr_217_14 hg_o)) (hU_o 223 _ rfl)) rfl (rr_217_14 hg_o)) (hU_o 223 _ rfl)) rfl (rr_217_14 hg_o)) (hU_o 223 _ rfl)) (fr_r (Fw_w (Fw_w (Fw_w h_o (fr_r h_o rfl (rr_217_14 hg_o)) (hU_o 223 _ rfl)) (fr_r (Fw_w h_o (fr_r h_o rfl (rr_217_14 hg_o)) (hU_o 223 _ rfl)) rfl (rr_217_14 hg_o)) (hU_o 223 _ rfl)) (fr_r (Fw_w (Fw_w h_o (fr_r h_o rfl (rr_217_14 hg_o)) (hU_o 223 _ rfl)) (fr_r (Fw_w h_o (fr_r h_o rfl (rr_217_14 hg_o)) (hU_o 223 _ rfl)) rfl (rr_217_14 hg_o)) (hU_o 223 _ rfl)) rfl (rr_217_14 hg_o)) (hU_o 223 _ rfl)) rfl (rr_217_14 hg_o)) (hU_o 223 _ rfl)) rfl (rr_217_14 hg_o)) (hU_o 223 _ rfl)) (fr_r (Fw_w (Fw_w (Fw_w (Fw_w (Fw_w h_o (fr_r h_o rfl (rr_217_14 hg_o)) (hU_o 223 _ rfl)) (fr_r (Fw_w h_o (fr_r h_o rfl (rr_217_14 hg_o)) (hU_o 223 _ rfl)) rfl (rr_217_14 hg_o)) (hU_o 223 _ rfl)) (fr_r (Fw_w (Fw_w h_o (fr_r h_o rfl (rr_217_14 hg_o)) (hU_o 223 _ rfl)) (fr_r (Fw_w h_o (fr_r h_o rfl (rr_217_14 hg_o)) (hU_o 223 _ rfl)) rfl (rr_217_14 hg_o)) (hU_o 223 _ rfl)) rfl (rr_217_14 hg_o)) (hU_o 223 _ rfl)) (fr_r (Fw_w (Fw_w (Fw_w h_o (fr_r h_o rfl (rr_217_14 hg_o)) (hU_o 223 _ rfl)) (fr_r (Fw_w h_o (fr_r h_o rfl (rr_217_14 hg_o)) (hU_o 223 _ rfl)) rfl (rr_217_14 hg_o)) (hU_o 223 _ rfl)) (fr_r (Fw_w (Fw_w h_o (fr_r h_o rfl (rr_217_14 hg_o)) (hU_o 223 _ rfl)) (fr_r (Fw_w h_o (fr_r h_o rfl (rr_217_14 hg_o)) (hU_o 223 _ rfl)) rfl (rr_217_14 hg_o)) (hU_o 223 _ rfl)) rfl (rr_217_14 hg_o)) (hU_o 223 _ rfl)) rfl (rr_217_14 hg_o)) (hU_o 223 _ rfl)) (fr_r (Fw_w (Fw_w (Fw_w (Fw_w h_o (fr_r h_o rfl (rr_217_14 hg_o)) (hU_o 223 _ rfl)) (fr_r (Fw_w h_o (fr_r h_o rfl (rr_217_14 hg_o)) (hU_o 223 _ rfl)) rfl (rr_217_14 hg_o)) (hU_o 223 _ rfl)) (fr_r (Fw_w (Fw_w h_o (fr_r h_o rfl (rr_217_14 hg_o)) (hU_o 223 _ rfl)) (fr_r (Fw_w h_o (fr_r h_o rfl (rr_217_14 hg_o)) (hU_o 223 _ rfl)) rfl (rr_217_14 hg_o)) (hU_o 223 _ rfl)) rfl (rr_217_14 hg_o)) (hU_o 223 _ rfl)) (fr_r (Fw_w (Fw_w (Fw_w h_o (fr_r h_o rfl (rr_217_14 hg_o)) (hU_o 223 _ rfl)) (fr_r (Fw_w h_o (fr_r h_o rfl (rr_217_14 hg_o)) (hU_o 223 _ rfl)) rfl (rr_217_14 hg_o)) (hU_o 223 _ rfl)) (fr_r (Fw_w (Fw_w h_o (fr_r h_o rfl (rr_217_14 hg_o)) (hU_o 223 _ rfl)) (fr_r (Fw_w h_o (fr_r h_o rfl (rr_217_14 hg_o)) (hU_o 223 _ rfl)) rfl (rr_217_14 hg_o)) (hU_o 223 _ rfl)) rfl (rr_217_14 hg_o)) (hU_o 223 _ rfl)) rfl (rr_217_14 hg_o)) (hU_o 223 _ rfl)) rfl (rr_217_14 hg_o)) (hU_o 223 _ rfl)) rfl (rr_217_14 hg_o)) (hU_o 223 _ rfl)) rfl (rr_217_14 hg_o)) (hU_o 223 _ rfl)) rfl (hU_o 217 _ rfl)) rfl (hU_o 217 _ rfl)) rfl (hU_o 217 _ rfl)) rfl (hU_o 217 _ rfl)) rfl (hU_o 217 _ rfl)) rfl (hU_o 217 _ rfl)) rfl (hU_o 217 _ rfl)) rfl (hU_o 217 _ rfl))) (fun v17 s16 h729_o => ?_)
        exact gQ_ret (Fw_w h729_o rfl (hU_o 217 _ rfl))
    · unfold fb_197_80
      dsimp only
      refine gQ_bool ?_
      refine gQ_ite ?_ ?_
      · unfold fb_197_100
        dsimp only
        refine gQ_bool ?_
        refine gQ_v1 (A := Fw W g) (om_184 hg_o hU_o rfl rfl (Fw_w (Fw_w (Fw_w (Fw_w (Fw_w (Fw_w (Fw_w (Fw_w (Fw_w (Fw_w (Fw_w (Fw_w (Fw_w (Fw_w (Fw_w h_o (fr_r h_o rfl (rr_217_14 hg_o)) (hU_o 223 _ rfl)) (fr_r (Fw_w h_o (fr_r h_o rfl (rr_217_14 hg_o)) (hU_o 223 _ rfl)) rfl (rr_217_14 hg_o)) (hU_o 223 _ rfl)) (fr_r (Fw_w (Fw_w h_o (fr_r h_o rfl (rr_217_14 hg_o)) (hU_o 223 _ rfl)) (fr_r (Fw_w h_o (fr_r h_o rfl (rr_217_14 hg_o)) (hU_o 223 _ rfl)) rfl (rr_217_14 hg_o)) (hU_o 223 _ rfl)) rfl (rr_217_14 hg_o)) (hU_o 223 _ rfl)) (fr_r (Fw_w (Fw_w (Fw_w h_o (fr_r h_o rfl (rr_217_14 hg_o)) (hU_o 223 _ rfl)) (fr_r (Fw_w h_o (fr_r h_o rfl (rr_217_14 hg_o)) (hU_o 223 _ rfl)) rfl (rr_217_14 hg_o)) (hU_o 223 _ rfl)) (fr_r (Fw_w (Fw_w h_o (fr_r h_o rfl (rr_217_14 hg_o)) (hU_o 223 _ rfl)) (fr_r (Fw_w h_o (fr_r h_o rfl (rr_217_14 hg_o)) (hU_o 223 _ rfl)) rfl (rr_217_14 hg_o)) (hU_o 223 _ rfl)) rfl (rr_217_14 hg_o)) (hU_o 223 _ rfl)) rfl (rr_217_14 hg_o)) (hU_o 223 _ rfl)) (fr_r (Fw_w (Fw_w (Fw_w (Fw_w h_o (fr_r h_o rfl (rr_217_14 hg_o)) (hU_o 223 _ rfl)) (fr_r (Fw_w h_o (fr_r h_o rfl (rr_217_14 hg_o)) (hU_o 223 _ rfl)) rfl (rr_217_14 hg_o)) (hU_o 223 _ rfl)) (fr_r (Fw_w (Fw_w h_o (fr_r h_o rfl (rr_217_14 hg_o)) (hU_o 223 _ rfl)) (fr_r (Fw_w h_o (fr_r h_o rfl (rr_217_14 hg_o)) (hU_o 223 _ rfl)) rfl (rr_217_14 hg_o)) (hU_o 223 _ rfl)) rfl (rr_217_14 hg_o)) (hU_o 223 _ rfl)) (fr_r (Fw_w (Fw_w (Fw_w h_o (fr_r h_o rfl (rr_217_14 hg_o)) (hU_o 223 _ rfl)) (fr_r (Fw_w h_o (fr_r h_o rfl (rr_217_14 hg_o)) (hU_o 223 _ rfl)) rfl (rr_217_14 hg_o)) (hU_o 223 _ rfl)) (fr_r (Fw_w (Fw_w h_o (fr_r h_o rfl (rr_217_14 hg_o)) (hU_o 223 _ rfl)) (fr_r (Fw_w h_o (fr_r h_o rfl (rr_217_14 hg_o)) (hU_o 223 _ rfl)) rfl (rr_217_14 hg_o)) (hU_o 223 _ rfl)) rfl (rr_217_14 hg_o)) (hU_o 223 _ rfl)) rfl (rr_217_14 hg_o)) (hU_o 223 _ rfl)) rfl (rr_217_14 hg_o)) (hU_o 223 _ rfl)) (fr_r (Fw_w (Fw_w (Fw_w (Fw_w (Fw_w h_o (fr_r h_o rfl (rr_217_14 hg_o)) (hU_o 223 _ rfl)) (fr_r (Fw_w h_o (fr_r h_o rfl (rr_217_14 hg_o)) (hU_o 223 _ rfl)) rfl (rr_217_14 hg_o)) (hU_o 223 _ rfl)) (fr_r (Fw_w (Fw_w h_o (fr_r h_o rfl (rr_217_14 hg_o)) (hU_o 223 _ rfl)) (fr_r (Fw_w h_o (fr_r h_o rfl (rr_217_14 hg_o)) (hU_o 223 _ rfl)) rfl (rr_217_14 hg_o)) (hU_o 223 _ rfl)) rfl (rr_217_14 hg_o)) (hU_o 223 _ rfl)) (fr_r (Fw_w (Fw_w (Fw_w h_o (fr_r h_o rfl (rr_217_14 hg_o)) (hU_o 223 _ rfl)) (fr_r (Fw_w h_o (fr_r h_o rfl (rr_217_14 hg_o)) (hU_o 223 _ rfl)) rfl (rr_217_14 hg_o)) (hU_o 223 _ rfl)) (fr_r (Fw_w (Fw_w h_o (fr_r h_o rfl (rr_217_14 hg_o)) (hU_o 223 _ rfl)) (fr_r (Fw_w h_o (fr_r h_o rfl (rr_217_14 hg_o)) (hU_o 223 _ rfl)) rfl (rr_217_14 hg_o)) (hU_o 223 _ rfl)) rfl (rr_217_14 hg_o)) (hU_o 223 _ rfl)) rfl (rr_217_14 hg_o)) (hU_o 223 _ rfl)) (fr_r (Fw_w (Fw_w (Fw_w (Fw_w h_o (fr_r h_o rfl (rr_217_14 hg_o)) (hU_o 223 _ rfl)) (fr_r (Fw_w h_o (fr_r h_o rfl (rr_217_14 hg_o)) (hU_o 223 _ rfl)) rfl (rr_217_14 hg_o)) (hU_o 223 _ rfl)) (fr_r (Fw_w (Fw_w h_o (fr_r h_o rfl (rr_217_14 hg_o)) (hU_o 223 _ rfl)) (fr_r (Fw_w h_o (fr_r h_o rfl (rr_217_14 hg_o)) (hU_o 223 _ rfl)) rfl (rr_217_14 hg_o)) (hU_o 223 _ rfl)) rfl (rr_217_14 hg_o)) (hU_o 223 _ rfl)) (fr_r (Fw_w (Fw_w (Fw_w h_o (fr_r h_o rfl (rr_217_14 hg_o)) (hU_o 223 _ rfl)) (fr_r (Fw_w h_o (fr_r h_o rfl (rr_217_14 hg_o)) (hU_o 223 _ rfl)) rfl (rr_217_14 hg_o)) (hU_o 223 _ rfl)) (fr_r (Fw_w (Fw_w h_o (fr_r h_o rfl (rr_217_14 hg_o)) (hU_o 223 _ rfl)) (fr_r (Fw_w h_o (fr_r h_o rfl (rr_217_14 hg_o)) (hU_o 223 _ rfl)) rfl (rr_217_14 hg_o)) (hU_o 223 _ rfl)) rfl (rr_217_14 hg_o)) (hU_o 223 _ rfl)) rfl (rr_217_14 hg_o)) (hU_o 223 _ rfl)) rfl (rr_217_14 hg_o)) (hU_o 223 _ rfl)) rfl (rr_217_14 hg_o)) (hU_o 223 _ rfl)) (fr_r (Fw_w (Fw_w (Fw_w (Fw_w (Fw_w (Fw_w h_o (fr_r h_o rfl (rr_217_14 hg_o)) (hU_o 223 _ rfl)) (fr_r (Fw_w h_o (fr_r h_o rfl (rr_217_14 hg_o)) (hU_o 223 _ rfl)) rfl (rr_217_14 hg_o)) (hU_o 223 _ rfl)) (fr_r (Fw_w (Fw_w h_o (fr_r h_o rfl (rr_217_14 hg_o)) (hU_o 223 _ rfl)) (fr_r (Fw_w h_o (fr_r h_o rfl (rr_217_14 hg_o)) (hU_o 223 _ rfl)) rfl (rr_217_14 hg_o)) (hU_o 223 _ rfl)) rfl (rr_217_14 hg_o)) (hU_o 223 _ rfl)) (fr_r (Fw_w (Fw_w (Fw_w h_o (fr_r h_o rfl (rr_217_14 hg_o)) (hU_o 223 _ rfl)) (fr_r (Fw_w h_o (fr_r h_o rfl (rr_217_14 hg_o)) (hU_o 223 _ rfl)) rfl (rr_217_14 hg_o)) (hU_o 223 _ rfl)) (fr_r (Fw_w (Fw_w h_o (fr_r h_o rfl (rr_217_14 hg_o)) (hU_o 223 _ rfl)) (fr_r (Fw_w h_o (fr_r h_o rfl (rr_217_14 hg_o)) (hU_o 223 _ rfl)) rfl (rr_217_14 hg_o)) (hU_o 223 _ rfl)) rfl (rr_217_14 hg_o)) (hU_o 223 _ rfl)) rfl (rr_217_14 hg_o)) (hU_o 223 _ rfl)) (fr_r (Fw_w (Fw_w (Fw_w (Fw_w h_o (fr_r h_o rfl (rr_217_14 hg_o)) (hU_o 223 _ rfl)) (fr_r (Fw_w h_o (fr_r h_o rfl (rr_217_14 hg_o)) (hU_o 223 _ rfl)) rfl (rr_217_14 hg_o)) (hU_o 223 _ rfl)) (fr_r (Fw_w (Fw_w h_o (fr_r h_o rfl (rr_217_14 hg_o)) (hU_o 223 _ rfl)) (fr_r (Fw_w h_o (fr_r h_o rfl (rr_217_14 hg_o)) (hU_o 223 _ rfl)) rfl (rr_217_14 hg_o)) (hU_o 223 _ rfl)) rfl (rr_217_14 hg_o)) (hU_o 223 _ rfl)) (fr_r (Fw_w (Fw_w (Fw_w h_o (fr_r h_o rfl (rr_217_14 hg_o)) (hU_o 223 _ rfl)) (fr_r (Fw_w h_o (fr_r h_o rfl (rr_217_14 hg_o)) (hU_o 223 _ rfl)) rfl (rr_217_14 hg_o)) (hU_o 223 _ rfl)) (fr_r (Fw_w (Fw_w h_o (fr_r h_o rfl (rr_217_14 hg_o)) (hU_o 223 _ rfl)) (fr_r (Fw_w h_o (fr_r h_o rfl (rr_217_14 hg_o)) (hU_o 223 _ rfl)) rfl (rr_217_14 hg_o)) (hU_o 223 _ rfl)) rfl (rr_217_14 hg_o)) (hU_o 223 _ rfl)) rfl (rr_217_14 hg_o)) (hU_o 223 _ rfl)) rfl (rr_217_14 hg_o)) (hU_o 223 _ rfl)) (fr_r (Fw_w (Fw_w (Fw_w (Fw_w (Fw_w h_o (fr_r h_o rfl (rr_217_14 hg_o)) (hU_o 223 _ rfl)) (fr_r (Fw_w h_o (fr_r h_o rfl (rr_217_14 hg_o)) (hU_o 223 _ rfl)) rfl (rr_217_14 hg_o)) (hU_o 223 _ rfl)) (fr_r (Fw_w (Fw_w h_o (fr_r h_o rfl (rr_217_14 hg_o)) (hU_o 223 _ rfl)) (fr_r (Fw_w h_o (fr_r h_o rfl (rr_217_14 hg_o)) (hU_o 223 _ rfl)) rfl (rr_217_14 hg_o)) (hU_o 223 _ rfl)) rfl (rr_217_14 hg_o)) (hU_o 223 _ rfl)) (fr_r (Fw_w (Fw_w (Fw_w h_o (fr_r h_o rfl (rr_217_14 hg_o)) (hU_o 223 _ rfl)) (fr_r (Fw_w h_o (fr_r h_o rfl (rr_217_14 hg_o)) (hU_o 223 _ rfl)) rfl (rr_217_14 hg_o)) (hU_o 223 _ rfl)) (fr_r (Fw_w (Fw_w h_o (fr_r h_o rfl (rr_217_14 hg_o)) (hU_o 223 _ rfl)) (fr_r (Fw_w h_o (fr_r h_o rfl (rr_217_14 hg_o)) (hU_o 223 _ rfl)) rfl (rr_217_14 hg_o)) (hU_o 223 _ rfl)) rfl (rr_217_14 hg_o)) (hU_o 223 _ rfl)) rfl (rr_217_14 hg_o)) (hU_o 223 _ rfl)) (fr_r (Fw_w (Fw_w (Fw_w (Fw_w h_o (fr_r h_o rfl (rr_217_14 hg_o)) (hU_o 223 _ rfl)) (fr_r (Fw_w h_o (fr_r h_o rfl (rr_217_14 hg_o)) (hU_o 223 _ rfl)) rfl (rr_217_14 hg_o)) (hU_o 223 _ rfl)) (fr_r (Fw_w (Fw_w h_o (fr_r h_o rfl (rr_217_14 hg_o)) (hU_o 223 _ rfl)) (fr_r (Fw_w h_o (fr_r h_o rfl (rr_217_14 hg_o)) (hU_o 223 _ rfl)) rfl (rr_217_14 hg_o)) (hU_o 223 _ rfl)) rfl (rr_217_14 hg_o)) (hU_o 223 _ rfl)) (fr_r (Fw_w (Fw_w (Fw_w h_o (fr_r h_o rfl (rr_217_14 hg_o)) (hU_o 223 _ rfl)) (fr_r (Fw_w h_o (fr_r h_o rfl (rr_217_14 hg_o)) (hU_o 223 _ rfl)) rfl (rr_217_14 hg_o)) (hU_o 223 _ rfl)) (fr_r (Fw_w (Fw_w h_o (fr_r h_o rfl (rr_217_14 hg_o)) (hU_o 223 _ rfl)) (fr_r (Fw_w h_o (fr_r h_o rfl (rr_217_14 hg_o)) (hU_o 223 _ rfl)) rfl (rr_217_14 hg_o)) (hU_o 223 _ rfl)) rfl (rr_217_14 hg_o)) (hU_o 223 _ rfl)) rfl (rr_217_14 hg_o)) (hU_o 223 _ rfl)) rfl (rr_217_14 hg_o)) (hU_o 223 _ rfl)) rfl (rr_217_14 hg_o)) (hU_o 223 _ rfl)) rfl (rr_217_14 hg_o)) (hU_o 223 _ rfl)) rfl (hU_o 217 _ rfl)) rfl (hU_o 217 _ rfl)) rfl (hU_o 217 _ rfl)) rfl (hU_o 217 _ rfl)) rfl (hU_o 217 _ rfl)) rfl (hU_o 217 _ rfl)) rfl (hU_o 217 _ rfl)) rfl (hU_o 217 _ rfl))) (fun v17 s16 h730_o => ?_)
        exact gQ_ret (Fw_w h730_o rfl (hU_o 217 _ rfl))
      · unfold fb_197_100
        dsimp only
        refine gQ_bool ?_
        refine gQ_v1 (A := Fw W g) (om_184 hg_o hU_o rfl rfl (Fw_w (Fw_w (Fw_w (Fw_w (Fw_w (Fw_w (Fw_w (Fw_w (Fw_w (Fw_w (Fw_w (Fw_w (Fw_w (Fw_w (Fw_w h_o (fr_r h_o rfl (rr_217_14 hg_o)) (hU_o 223 _ rfl)) (fr_r (Fw_w h_o (fr_r h_o rfl (rr_217_14 hg_o)) (hU_o 223 _ rfl)) rfl (rr_217_14 hg_o)) (hU_o 223 _ rfl)) (fr_r (Fw_w (Fw_w h_o (fr_r h_o rfl (rr_217_14 hg_o)) (hU_o 223 _ rfl)) (fr_r (Fw_w h_o (fr_r h_o rfl (rr_217_14 hg_o)) (hU_o 223 _ rfl)) rfl (rr_217_14 hg_o)) (hU_o 223 _ rfl)) rfl (rr_217_14 hg_o)) (hU_o 223 _ rfl)) (fr_r (Fw_w (Fw_w (Fw_w h_o (fr_r h_o rfl (rr_217_14 hg_o)) (hU_o 223 _ rfl)) (fr_r (Fw_w h_o (fr_r h_o rfl (rr_217_14 hg_o)) (hU_o 223 _ rfl)) rfl (rr_217_14 hg_o)) (hU_o 223 _ rfl)) (fr_r (Fw_w (Fw_w h_o (fr_r h_o rfl (rr_217_14 hg_o)) (hU_o 223 _ rfl)) (fr_r (Fw_w h_o (fr_r h_o rfl (rr_217_14 hg_o)) (hU_o 223 _ rfl)) rfl (rr_217_14 hg_o)) (hU_o 223 _ rfl)) rfl (rr_217_14 hg_o)) (hU_o 223 _ rfl)) rfl (rr_217_14 hg_o)) (hU_o 223 _ rfl)) (fr_r (Fw_w (Fw_w (Fw_w (Fw_w h_o (fr_r h_o rfl (rr_217_14 hg_o)) (hU_o 223 _ rfl)) (fr_r (Fw_w h_o (fr_r h_o rfl (rr_217_14 hg_o)) (hU_o 223 _ rfl)) rfl (rr_217_14 hg_o)) (hU_o 223 _ rfl)) (fr_r (Fw_w (Fw_w h_o (fr_r h_o rfl (rr_217_14 hg_o)) (hU_o 223 _ rfl)) (fr_r (Fw_w h_o (fr_r h_o rfl (rr_217_14 hg_o)) (hU_o 223 _ rfl)) rfl (rr_217_14 hg_o)) (hU_o 223 _ rfl)) rfl (rr_217_14 hg_o)) (hU_o 223 _ rfl)) (fr_r (Fw_w (Fw_w (Fw_w h_o (fr_r h_o rfl (rr_217_14 hg_o)) (hU_o 223 _ rfl)) (fr_r (Fw_w h_o (fr_r h_o rfl (rr_217_14 hg_o)) (hU_o 223 _ rfl)) rfl (rr_217_14 hg_o)) (hU_o 223 _ rfl)) (fr_r (Fw_w (Fw_w h_o (fr_r h_o rfl (rr_217_14 hg_o)) (hU_o 223 _ rfl)) (fr_r (Fw_w h_o (fr_r h_o rfl (rr_217_14 hg_o)) (hU_o 223 _ rfl)) rfl (rr_217_14 hg_o)) (hU_o 223 _ rfl)) rfl (rr_217_14 hg_o)) (hU_o 223 _ rfl)) rfl (rr_217_14 hg_o)) (hU_o 223 _ rfl)) rfl (rr_217_14 hg_o)) (hU_o 223 _ rfl)) (fr_r (Fw_w (Fw_w (Fw_w (Fw_w (Fw_w h_o (fr_r h_o rfl (rr_217_14 hg_o)) (hU_o 223 _ rfl)) (fr_r (Fw_w h_o (fr_r h_o rfl (rr_217_14 hg_o)) (hU_o 223 _ rfl)) rfl (rr_217_14 hg_o)) (hU_o 223 _ rfl)) (fr_r (Fw_w (Fw_w h_o (fr_r h_o rfl (rr_217_14 hg_o)) (hU_o 223 _ rfl)) (fr_r (Fw_w h_o (fr_r h_o rfl (rr_217_14 hg_o)) (hU_o 223 _ rfl)) rfl (rr_217_14 hg_o)) (hU_o 223 _ rfl)) rfl (rr_217_14 hg_o)) (hU_o 223 _ rfl)) (fr_r (Fw_w (Fw_w (Fw_w h_o (fr_r h_o rfl (rr_217_14 hg_o)) (hU_o 223 _ rfl)) (fr_r (Fw_w h_o (fr_r h_o rfl (rr_217_14 hg_o)) (hU_o 223 _ rfl)) rfl (rr_217_14 hg_o)) (hU_o 223 _ rfl)) (fr_r (Fw_w (Fw_w h_o (fr_r h_o rfl (rr_217_14 hg_o)) (hU_o 223 _ rfl)) (fr_r (Fw_w h_o (fr_r h_o rfl (rr_217_14 hg_o)) (hU_o 223 _ rfl)) rfl (rr_217_14 hg_o)) (hU_o 223 _ rfl)) rfl (rr_217_14 hg_o)) (hU_o 223 _ rfl)) rfl (rr_217_14 hg_o)) (hU_o 223 _ rfl)) (fr_r (Fw_w (Fw_w (Fw_w (Fw_w h_o (fr_r h_o rfl (rr_217_14 hg_o)) (hU_o 223 _ rfl)) (fr_r (Fw_w h_o (fr_r h_o rfl (rr_217_14 hg_o)) (hU_o 223 _ rfl)) rfl (rr_217_14 hg_o)) (hU_o 223 _ rfl)) (fr_r (Fw_w (Fw_w h_o (fr_r h_o rfl (rr_217_14 hg_o)) (hU_o 223 _ rfl)) (fr_r (Fw_w h_o (fr_r h_o rfl (rr_217_14 hg_o)) (hU_o 223 _ rfl)) rfl (rr_217_14 hg_o)) (hU_o 223 _ rfl)) rfl (rr_217_14 hg_o)) (hU_o 223 _ rfl)) (fr_r (Fw_w (Fw_w (Fw_w h_o (fr_r h_o rfl (rr_217_14 hg_o)) (hU_o 223 _ rfl)) (fr_r (Fw_w h_o (fr_r h_o rfl (rr_217_14 hg_o)) (hU_o 223 _ rfl)) rfl (rr_217_14 hg_o)) (hU_o 223 _ rfl)) (fr_r (Fw_w (Fw_w h_o (fr_r h_o rfl (rr_217_14 hg_o)) (hU_o 223 _ rfl)) (fr_r (Fw_w h_o (fr_r h_o rfl (rr_217_14 hg_o)) (hU_o 223 _ rfl)) rfl (rr_217_14 hg_o)) (hU_o 223 _ rfl)) rfl (rr_217_14 hg_o)) (hU_o 223 _ rfl)) rfl (rr_217_14 hg_o)) (hU_o 223 _ rfl)) rfl (rr_217_14 hg_o)) (hU_o 223 _ rfl)) rfl (rr_217_14 hg_o)) (hU_o 223 _ rfl)) (fr_r (Fw_w (Fw_w (Fw_w (Fw_w (Fw_w (Fw_w h_o (fr_r h_o rfl (rr_217_14 hg_o)) (hU_o 223 _ rfl)) (fr_r (Fw_w h_o (fr_r h_o rfl (rr_217_14 hg_o)) (hU_o 223 _ rfl)) rfl (rr_217_14 hg_o)) (hU_o 223 _ rfl)) (fr_r (Fw_w (Fw_w h_o (fr_r h_o rfl (rr_217_14 hg_o)) (hU_o 223 _ rfl)) (fr_r (Fw_w h_o (fr_r h_o rfl (rr_217_14 hg_o)) (hU_o 223 _ rfl)) rfl (rr_217_14 hg_o)) (hU_o 223 _ rfl)) rfl (rr_217_14 hg_o)) (hU_o 223 _ rfl)) (fr_r (Fw_w (Fw_w (Fw_w h_o (fr_r h_o rfl (rr_217_14 hg_o)) (hU_o 223 _ rfl)) (fr_r (Fw_w h_o (fr_r h_o rfl (rr_217_14 hg_o)) (hU_o 223 _ rfl)) rfl (rr_217_14 hg_o)) (hU_o 223 _ rfl)) (fr_r (Fw_w (Fw_w h_o (fr_r h_o rfl (rr_217_14 hg_o)) (hU_o 223 _ rfl)) (fr_r (Fw_w h_o (fr_r h_o rfl (rr_217_14 hg_o)) (hU_o 223 _ rfl)) rfl (rr_217_14 hg_o)) (hU_o 223 _ rfl)) rfl (rr_217_14 hg_o)) (hU_o 223 _ rfl)) rfl (rr_217_14 hg_o)) (hU_o 223 _ rfl)) (fr_r (Fw_w (Fw_w (Fw_w (Fw_w h_o (fr_r h_o rfl (rr_217_14 hg_o)) (hU_o 223 _ rfl)) (fr_r (Fw_w h_o (fr_r h_o rfl (rr_217_14 hg_o)) (hU_o 223 _ rfl)) rfl (rr_217_14 hg_o)) (hU_o 223 _ rfl)) (fr_r (Fw_w (Fw_w h_o (fr_r h_o rfl (rr_217_14 hg_o)) (hU_o 223 _ rfl)) (fr_r (Fw_w h_o (fr_r h_o rfl (rr_217_14 hg_o)) (hU_o 223 _ rfl)) rfl (rr_217_14 hg_o)) (hU_o 223 _ rfl)) rfl (rr_217_14 hg_o)) (hU_o 223 _ rfl)) (fr_r (Fw_w (Fw_w (Fw_w h_o (fr_r h_o rfl (rr_217_14 hg_o)) (hU_o 223 _ rfl)) (fr_r (Fw_w h_o (fr_r h_o rfl (rr_217_14 hg_o)) (hU_o 223 _ rfl)) rfl (rr_217_14 hg_o)) (hU_o 223 _ rfl)) (fr_r (Fw_w (Fw_w h_o (fr_r h_o rfl (rr_217_14 hg_o)) (hU_o 223 _ rfl)) (fr_r (Fw_w h_o (fr_r h_o rfl (rr_217_14 hg_o)) (hU_o 223 _ rfl)) rfl (rr_217_14 hg_o)) (hU_o 223 _ rfl)) rfl (rr_217_14 hg_o)) (hU_o 223 _ rfl)) rfl (rr_217_14 hg_o)) (hU_o 223 _ rfl)) rfl (rr_217_14 hg_o)) (hU_o 223 _ rfl)) (fr_r (Fw_w (Fw_w (Fw_w (Fw_w (Fw_w h_o (fr_r h_o rfl (rr_217_14 hg_o)) (hU_o 223 _ rfl)) (fr_r (Fw_w h_o (fr_r h_o rfl (rr_217_14 hg_o)) (hU_o 223 _ rfl)) rfl (rr_217_14 hg_o)) (hU_o 223 _ rfl)) (fr_r (Fw_w (Fw_w h_o (fr_r h_o rfl (rr_217_14 hg_o)) (hU_o 223 _ rfl)) (fr_r (Fw_w h_o (fr_r h_o rfl (rr_217_14 hg_o)) (hU_o 223 _ rfl)) rfl (rr_217_14 hg_o)) (hU_o 223 _ rfl)) rfl (rr_217_14 hg_o)) (hU_o 223 _ rfl)) (fr_r (Fw_w (Fw_w (Fw_w h_o (fr_r h_o rfl (rr_217_14 hg_o)) (hU_o 223 _ rfl)) (fr_r (Fw_w h_o (fr_r h_o rfl (rr_217_14 hg_o)) (hU_o 223 _ rfl)) rfl (rr_217_14 hg_o)) (hU_o 223 _ rfl)) (fr_r (Fw_w (Fw_w h_o (fr_r h_o rfl (rr_217_14 hg_o)) (hU_o 223 _ rfl)) (fr_r (Fw_w h_o (fr_r h_o rfl (rr_217_14 hg_o)) (hU_o 223 _ rfl)) rfl (rr_217_14 hg_o)) (hU_o 223 _ rfl)) rfl (rr_217_14 hg_o)) (hU_o 223 _ rfl)) rfl (rr_217_14 hg_o)) (hU_o 223 _ rfl)) (fr_r (Fw_w (Fw_w (Fw_w (Fw_w h_o (fr_r h_o rfl (rr_217_14 hg_o)) (hU_o 223 _ rfl)) (fr_r (Fw_w h_o (fr_r h_o rfl (rr_217_14 hg_o)) (hU_o 223 _ rfl)) rfl (rr_217_14 hg_o)) (hU_o 223 _ rfl)) (fr_r (Fw_w (Fw_w h_o (fr_r h_o rfl (rr_217_14 hg_o)) (hU_o 223 _ rfl)) (fr_r (Fw_w h_o (fr_r h_o rfl (rr_217_14 hg_o)) (hU_o 223 _ rfl)) rfl (rr_217_14 hg_o)) (hU_o 223 _ rfl)) rfl (rr_217_14 hg_o)) (hU_o 223 _ rfl)) (fr_r (Fw_w (Fw_w (Fw_w h_o (fr_r h_o rfl (rr_217_14 hg_o)) (hU_o 223 _ rfl)) (fr_r (Fw_w h_o (fr_r h_o rfl (rr_217_14 hg_o)) (hU_o 223 _ rfl)) rfl (rr_217_14 hg_o)) (hU_o 223 _ rfl)) (fr_r (Fw_w (Fw_w h_o (fr_r h_o rfl (rr_217_14 hg_o)) (hU_o 223 _ rfl)) (fr_r (Fw_w h_o (fr_r h_o rfl (rr_217_14 hg_o)) (hU_o 223 _ rfl)) rfl (rr_217_14 hg_o)) (hU_o 223 _ rfl)) rfl (rr_217_14 hg_o)) (hU_o 223 _ rfl)) rfl (rr_217_14 hg_o)) (hU_o 223 _ rfl)) rfl (rr_217_14 hg_o)) (hU_o 223 _ rfl)) rfl (rr_217_14 hg_o)) (hU_o 223 _ rfl)) rfl (rr_217_14 hg_o)) (hU_o 223 _ rfl)) rfl (hU_o 217 _ rfl)) rfl (hU_o 217 _ rfl)) rfl (hU_o 217 _ rfl)) rfl (hU_o 217 _ rfl)) rfl (hU_o 217 _ rfl)) rfl (hU_o 217 _ rfl)) rfl (hU_o 217 _ rfl)) rfl (hU_o 217 _ rfl))) (fun v17 s16 h731_o => ?_)
        exact gQ_ret (Fw_w h731_o rfl (hU_o 217 _ rfl))

theorem om_198 {W : Nat → Nat → Bool} {g s : gS} {a0 : Nat} {a1 : Int} (hg_o : RF g) (hU_o : ∀ a k, mss a k = true → W a k = true) (ea0_o : a0 = 217) (h_o : Fw W g s) : gQ (f_198 a0 a1 s) (fun r => Fw W g r.2.2.2) := by
  subst ea0_o
  unfold f_198
  refine gQ_v1 (A := Fw W g) (om_156 hg_o hU_o rfl h_o) (fun v2 s1_l h732_o => ?_)
  refine gQ_v1 (A := Fw W g) (om_156 hg_o hU_o rfl h732_o) (fun v4_l s3_l h733_o => ?_)
  refine gQ_v1 (A := Fw W g) (om_156 hg_o hU_o rfl h733_o) (fun v6 s5 h734_o => ?_)
  refine gQ_v1 (A := Fw W g) (om_156 hg_o hU_o rfl h734_o) (fun v8 s7 h735_o => ?_)
  refine gQ_v1 (A := Fw W g) (om_197 hg_o hU_o rfl h735_o) (fun v10 s9 h736_o => ?_)
  exact gQ_ret h736_o

theorem om_199 {W : Nat → Nat → Bool} {g s : gS} {a0 : Nat} {a1 : Int} (hg_o : RF g) (hU_o : ∀ a k, msd a k = true → W a k = true) (ea0_o : a0 = 217) (h_o : Fw W g s) : gQ (f_199 a0 a1 s) (fun r => Fw W g r.2.2.2) := by
  subst ea0_o
  unfold f_199
  dsimp only
  refine gQ_ite ?_ ?_
  · exact gQ_none
  · exact gQ_ret (Fw_w h_o (fr_r h_o rfl (rr_217_1 hg_o)) (hU_o 218 _ rfl))

theorem om_200 {W : Nat → Nat → Bool} {g s : gS} {a0 : Nat} {a1 : Int} (hg_o : RF g) (hU_o : ∀ a k, msd a k = true → W a k = true) (ea0_o : a0 = 217) (h_o : Fw W g s) : gQ (f_200 a0 a1 s) (fun r => Fw W g r.2.2.2) := by
  subst ea0_o
  unfold f_200
  dsimp only
  refine gQ_v1 (A := Fw W g) (om_151 hg_o (mqd_o hU_o)  h_o) (fun v2 s1_l h737_o => ?_)
  refine gQ_v1 (A := Fw W g) (om_151 hg_o (mqd_o hU_o)  (Fw_w h737_o (fr_r h737_o rfl (rr_217_1 hg_o)) (hU_o 218 _ rfl))) (fun v5 s4_l h738_o => ?_)
  exact gQ_ret (Fw_w h738_o (fr_r (Fw_w h737_o (fr_r h737_o rfl (rr_217_1 hg_o)) (hU_o 218 _ rfl)) rfl (rr_217_1 hg_o)) (hU_o 218 _ rfl))

theorem om_196 {W : Nat → Nat → Bool} {g s : gS} {a0 : Nat} (hg_o : RF g) (hU_o : ∀ a k, mss a k = true → W a k = true) (ea0_o : a0 = 217) (h_o : Fw W g s) : gQ (f_196 a0 s) (fun r => Fw W g r.2.2.2) := by
  subst ea0_o
  unfold f_196
  dsimp only
  exact gQ_ret (Fw_w h_o rfl (hU_o 217 _ rfl))

theorem om_203 {W : Nat → Nat → Bool} {g s : gS} {a0 : Nat} {a1 : Int} {a2 : Int} (hg_o : RF g) (hU_o : ∀ a k, mss a k = true → W a k = true) (ea0_o : a0 = 217) (h_o : Fw W g s) : gQ (f_203 a0 a1 a2 s) (fun r => Fw W g r.2.2.2) := by
  subst ea0_o
  unfold f_203
  refine gQ_v1 (A := Fw W g) (om_161 hg_o hU_o rfl h_o) (fun v2 s1_l h739_o => ?_)
  refine gQ_ite ?_ ?_
  · unfold fb_203_27
    dsimp only
    refine gQ_ite ?_ ?_
    · exact gQ_ret (Fw_w h739_o rfl (hU_o 217 _ rfl))
    · refine gQ_ite ?_ ?_
      · refine gQ_v1 (A := Fw W g) (om_155 hg_o hU_o rfl (Fw_w h739_o rfl (hU_o 217 _ rfl))) (fun v6 s5 h740_o => ?_)
        exact gQ_ret h740_o
      · refine gQ_loop (fun y_l => y_l.1 = 217 ∧ Fw W g (y_l.2.2.2.2)) (fun y_l hy_o => ?_) ⟨rfl, (Fw_w h739_o rfl (hU_o 217 _ rfl))⟩
        obtain ⟨x741_o, x742_o, x743_o, x744_o, x745_o⟩ := y_l
        obtain ⟨e747_o, h746_o⟩ := hy_o
        dsimp only at e747_o h746_o
        subst e747_o
        show gQ (sb_203_56 217 x742_o x743_o x744_o x745_o) _
        unfold sb_203_56
        dsimp only
        refine gQ_ite ?_ ?_
        · refine gQ_v1 (A := Fw W g) (om_160 hg_o hU_o rfl h746_o) (fun v8 s7 h748_o => ?_)
          refine gQ_v1 (A := Fw W g) (om_153 hg_o hU_o  h748_o) (fun v10 s9 h749_o => ?_)
          refine gQ_ite ?_ ?_
          · exact gQ_ret ⟨rfl, h749_o⟩
          · exact gQ_ret ⟨rfl, h749_o⟩
        · refine gQ_map ?_
          exact gQ_ret h746_o
  · refine gQ_v1 (A := Fw W g) (om_150 hg_o hU_o  h739_o) (fun v14 s13 h750_o => ?_)
    refine gQ_ite ?_ ?_
    · unfold fb_203_27
      dsimp only
      refine gQ_ite ?_ ?_
      · exact gQ_ret (Fw_w h750_o rfl (hU_o 217 _ rfl))
      · refine gQ_ite ?_ ?_
        · refine gQ_v1 (A := Fw W g) (om_155 hg_o hU_o rfl (Fw_w h750_o rfl (hU_o 217 _ rfl))) (fun v6 s5 h751_o => ?_)
          exact gQ_ret h751_o
        · refine gQ_loop (fun y_l => y_l.1 = 217 ∧ Fw W g (y_l.2.2.2.2)) (fun y_l hy_o => ?_) ⟨rfl, (Fw_w h750_o rfl (hU_o 217 _ rfl))⟩
          obtain ⟨x752_o, x753_o, x754_o, x755_o, x756_o⟩ := y_l
          obtain ⟨e758_o, h757_o⟩ := hy_o
          dsimp only at e758_o h757_o
          subst e758_o
          show gQ (sb_203_56 217 x753_o x754_o x755_o x756_o) _
          unfold sb_203_56
          dsimp only
          refine gQ_ite ?_ ?_
          · refine gQ_v1 (A := Fw W g) (om_160 hg_o hU_o rfl h757_o) (fun v8 s7 h759_o => ?_)
            refine gQ_v1 (A := Fw W g) (om_153 hg_o hU_o  h759_o) (fun v10 s9 h760_o => ?_)
            refine gQ_ite ?_ ?_
            · exact gQ_ret ⟨rfl, h760_o⟩
            · exact gQ_ret ⟨rfl, h760_o⟩
          · refine gQ_map ?_
            exact gQ_ret h757_o
    · unfold fb_203_27
      dsimp only
      refine gQ_ite ?_ ?_
      · exact gQ_ret (Fw_w h750_o rfl (hU_o 217 _ rfl))
      · refine gQ_ite ?_ ?_
        · refine gQ_v1 (A := Fw W g) (om_155 hg_o hU_o rfl (Fw_w h750_o rfl (hU_o 217 _ rfl))) (fun v6 s5 h761_o => ?_)
          exact gQ_ret h761_o
        · refine gQ_loop (fun y_l => y_l.1 = 217 ∧ Fw W g (y_l.2.2.2.2)) (fun y_l hy_o => ?_) ⟨rfl, (Fw_w h750_o rfl (hU_o 217 _ rfl))⟩
          obtain ⟨x762_o, x763_o, x764_o, x765_o, x766_o⟩ := y_l
          obtain ⟨e768_o, h767_o⟩ := hy_o
          dsimp only at e768_o h767_o
          subst e768_o
          show gQ (sb_203_56 217 x763_o x764_o x765_o x766_o) _
          unfold sb_203_56
          dsimp only
          refine gQ_ite ?_ ?_
          · refine gQ_v1 (A := Fw W g) (om_160 hg_o hU_o rfl h767_o) (fun v8 s7 h769_o => ?_)
            refine gQ_v1 (A := Fw W g) (om_153 hg_o hU_o  h769_o) (fun v10 s9 h770_o => ?_)
            refine gQ_ite ?_ ?_
            · exact gQ_ret ⟨rfl, h770_o⟩
            · exact gQ_ret ⟨rfl, h770_o⟩
          · refine gQ_map ?_
            exact gQ_ret h767_o

theorem om_204 {W : Nat → Nat → Bool} {g s : gS} {a0 : Nat} {a1 : Int} {a2 : Int} (hg_o : RF g) (hU_o : ∀ a k, mss a k = true → W a k = true) (ea0_o : a0 = 217) (h_o : Fw W g s) : gQ (f_204 a0 a1 a2 s) (fun r => Fw W g r.2.2.2) := by
  subst ea0_o
  unfold f_204
  refine gQ_v1 (A := Fw W g) (om_156 hg_o hU_o rfl h_o) (fun v2 s1_l h771_o => ?_)
  refine gQ_loop (fun y_l => y_l.1 = 217 ∧ Fw W g (y_l.2.2.2.2)) (fun y_l hy_o => ?_) ⟨rfl, h771_o⟩
  obtain ⟨x772_o, x773_o, x774_o, x775_o, x776_o⟩ := y_l
  obtain ⟨e778_o, h777_o⟩ := hy_o
  dsimp only at e778_o h777_o
  subst e778_o
  show gQ (sb_204_10 217 x773_o x774_o x775_o x776_o) _
  unfold sb_204_10
  refine gQ_ite ?_ ?_
  · refine gQ_v1 (A := Fw W g) (om_155 hg_o hU_o rfl h777_o) (fun v4_l s3_l h779_o => ?_)
    exact gQ_ret ⟨rfl, h779_o⟩
  · refine gQ_map ?_
    exact gQ_ret h777_o

theorem om_205 {W : Nat → Nat → Bool} {g s : gS} {a0 : Nat} {a1 : Int} (hg_o : RF g) (hU_o : ∀ a k, mss a k = true → W a k = true) (ea0_o : a0 = 217) (h_o : Fw W g s) : gQ (f_205 a0 a1 s) (fun r => Fw W g r.2.2.2) := by
  subst ea0_o
  unfold f_205
  refine gQ_v1 (A := Fw W g) (om_204 hg_o hU_o rfl h_o) (fun v2 s1_l h780_o => ?_)
  refine gQ_v1 (A := Fw W g) (om_156 hg_o hU_o rfl h780_o) (fun v4_l s3_l h781_o => ?_)
  refine gQ_ite ?_ ?_
  · refine gQ_v1 (A := Fw W g) (om_156 hg_o hU_o rfl h781_o) (fun v6 s5 h782_o => ?_)
    refine gQ_v1 (A := Fw W g) (om_155 hg_o hU_o rfl h782_o) (fun v8 s7 h783_o => ?_)
    exact gQ_ret h783_o
  · exact gQ_ret h781_o

theorem om_206 {W : Nat → Nat → Bool} {g s : gS} {a0 : Nat} {a1 : Int} {a2 : Int} (hg_o : RF g) (hU_o : ∀ a k, mss a k = true → W a k = true) (ea0_o : a0 = 217) (h_o : Fw W g s) : gQ (f_206 a0 a1 a2 s) (fun r => Fw W g r.2.2.2) := by
  subst ea0_o
  unfold f_206
  refine gQ_v1 (A := Fw W g) (om_162 hg_o hU_o rfl h_o) (fun v2 s1_l h784_o => ?_)
  refine gQ_ite ?_ ?_
  · unfold fb_206_28
    dsimp only
    refine gQ_ite ?_ ?_
    · exact gQ_ret (Fw_w h784_o rfl (hU_o 217 _ rfl))
    · refine gQ_ite ?_ ?_
      · refine gQ_v1 (A := Fw W g) (om_156 hg_o hU_o rfl (Fw_w h784_o rfl (hU_o 217 _ rfl))) (fun v6 s5 h785_o => ?_)
        exact gQ_ret h785_o
      · refine gQ_ite ?_ ?_
        · refine gQ_v1 (A := Fw W g) (om_198 hg_o hU_o rfl (Fw_w h784_o rfl (hU_o 217 _ rfl))) (fun v8 s7 h786_o => ?_)
          exact gQ_ret h786_o
        · refine gQ_ite ?_ ?_
          · refine gQ_v1 (A := Fw W g) (om_205 hg_o hU_o rfl (Fw_w h784_o rfl (hU_o 217 _ rfl))) (fun v10 s9 h787_o => ?_)
            exact gQ_ret h787_o
          · refine gQ_ite ?_ ?_
            · refine gQ_v1 (A := Fw W g) (om_204 hg_o hU_o rfl (Fw_w h784_o rfl (hU_o 217 _ rfl))) (fun v12 s11 h788_o => ?_)
              refine gQ_v1 (A := Fw W g) (om_156 hg_o hU_o rfl h788_o) (fun v14 s13 h789_o => ?_)
              exact gQ_ret h789_o
            · refine gQ_v1 (A := Fw W g) (om_204 hg_o hU_o rfl (Fw_w h784_o rfl (hU_o 217 _ rfl))) (fun v16 s15 h790_o => ?_)
              refine gQ_v1 (A := Fw W g) (om_205 hg_o hU_o rfl h790_o) (fun v18 s17 h791_o => ?_)
              exact gQ_ret h791_o
  · refine gQ_v1 (A := Fw W g) (om_150 hg_o hU_o  h784_o) (fun v20 s19 h792_o => ?_)
    refine gQ_ite ?_ ?_
    · unfold fb_206_28
      dsimp only
      refine gQ_ite ?_ ?_
      · exact gQ_ret (Fw_w h792_o rfl (hU_o 217 _ rfl))
      · refine gQ_ite ?_ ?_
        · refine gQ_v1 (A := Fw W g) (om_156 hg_o hU_o rfl (Fw_w h792_o rfl (hU_o 217 _ rfl))) (fun v6 s5 h793_o => ?_)
          exact gQ_ret h793_o
        · refine gQ_ite ?_ ?_
          · refine gQ_v1 (A := Fw W g) (om_198 hg_o hU_o rfl (Fw_w h792_o rfl (hU_o 217 _ rfl))) (fun v8 s7 h794_o => ?_)
            exact gQ_ret h794_o
          · refine gQ_ite ?_ ?_
            · refine gQ_v1 (A := Fw W g) (om_205 hg_o hU_o rfl (Fw_w h792_o rfl (hU_o 217 _ rfl))) (fun v10 s9 h795_o => ?_)
              exact gQ_ret h795_o
            · refine gQ_ite ?_ ?_
              · refine gQ_v1 (A := Fw W g) (om_204 hg_o hU_o rfl (Fw_w h792_o rfl (hU_o 217 _ rfl))) (fun v12 s11 h796_o => ?_)
                refine gQ_v1 (A := Fw W g) (om_156 hg_o hU_o rfl h796_o) (fun v14 s13 h797_o => ?_)
                exact gQ_ret h797_o
              · refine gQ_v1 (A := Fw W g) (om_204 hg_o hU_o rfl (Fw_w h792_o rfl (hU_o 217 _ rfl))) (fun v16 s15 h798_o => ?_)
                refine gQ_v1 (A := Fw W g) (om_205 hg_o hU_o rfl h798_o) (fun v18 s17 h799_o => ?_)
                exact gQ_ret h799_o
    · unfold fb_206_28
      dsimp only
      refine gQ_ite ?_ ?_
      · exact gQ_ret (Fw_w h792_o rfl (hU_o 217 _ rfl))
      · refine gQ_ite ?_ ?_
        · refine gQ_v1 (A := Fw W g) (om_156 hg_o hU_o rfl (Fw_w h792_o rfl (hU_o 217 _ rfl))) (fun v6 s5 h800_o => ?_)
          exact gQ_ret h800_o
        · refine gQ_ite ?_ ?_
          · refine gQ_v1 (A := Fw W g) (om_198 hg_o hU_o rfl (Fw_w h792_o rfl (hU_o 217 _ rfl))) (fun v8 s7 h801_o => ?_)
            exact gQ_ret h801_o
          · refine gQ_ite ?_ ?_
            · refine gQ_v1 (A := Fw W g) (om_205 hg_o hU_o rfl (Fw_w h792_o rfl (hU_o 217 _ rfl))) (fun v10 s9 h802_o => ?_)
              exact gQ_ret h802_o
            · refine gQ_ite ?_ ?_
              · refine gQ_v1 (A := Fw W g) (om_204 hg_o hU_o rfl (Fw_w h792_o rfl (hU_o 217 _ rfl))) (fun v12 s11 h803_o => ?_)
                refine gQ_v1 (A := Fw W g) (om_156 hg_o hU_o rfl h803_o) (fun v14 s13 h804_o => ?_)
                exact gQ_ret h804_o
              · refine gQ_v1 (A := Fw W g) (om_204 hg_o hU_o rfl (Fw_w h792_o rfl (hU_o 217 _ rfl))) (fun v16 s15 h805_o => ?_)
                refine gQ_v1 (A := Fw W g) (om_205 hg_o hU_o rfl h805_o) (fun v18 s17 h806_o => ?_)
                exact gQ_ret h806_o

theorem om_207 {W : Nat → Nat → Bool} {g s : gS} {a0 : Nat} {a1 : Int} {a2 : Int} (hg_o : RF g) (hU_o : ∀ a k, mss a k = true → W a k = true) (ea0_o : a0 = 217) (h_o : Fw W g s) : gQ (f_207 a0 a1 a2 s) (fun r => Fw W g r.2.2.2) := by
  subst ea0_o
  unfold f_207
  refine gQ_v1 (A := Fw W g) (om_163 hg_o hU_o rfl h_o) (fun v2 s1_l h807_o => ?_)
  refine gQ_ite ?_ ?_
  · unfold fb_207_14
    dsimp only
    refine gQ_ite ?_ ?_
    · exact gQ_ret (Fw_w h807_o rfl (hU_o 217 _ rfl))
    · refine gQ_ite ?_ ?_
      · refine gQ_v1 (A := Fw W g) (om_158 hg_o hU_o rfl (Fw_w h807_o rfl (hU_o 217 _ rfl))) (fun v6 s5 h808_o => ?_)
        exact gQ_ret h808_o
      · refine gQ_v1 (A := Fw W g) (om_159 hg_o hU_o rfl (Fw_w h807_o rfl (hU_o 217 _ rfl))) (fun v8 s7 h809_o => ?_)
        exact gQ_ret h809_o
  · unfold fb_207_14
    dsimp only
    refine gQ_ite ?_ ?_
    · exact gQ_ret (Fw_w h807_o rfl (hU_o 217 _ rfl))
    · refine gQ_ite ?_ ?_
      · refine gQ_v1 (A := Fw W g) (om_158 hg_o hU_o rfl (Fw_w h807_o rfl (hU_o 217 _ rfl))) (fun v6 s5 h810_o => ?_)
        exact gQ_ret h810_o
      · refine gQ_v1 (A := Fw W g) (om_159 hg_o hU_o rfl (Fw_w h807_o rfl (hU_o 217 _ rfl))) (fun v8 s7 h811_o => ?_)
        exact gQ_ret h811_o

theorem om_208 {W : Nat → Nat → Bool} {g s : gS} {a0 : Nat} {a1 : Int} {a2 : Int} (hg_o : RF g) (hU_o : ∀ a k, mss a k = true → W a k = true) (ea0_o : a0 = 217) (h_o : Fw W g s) : gQ (f_208 a0 a1 a2 s) (fun r => Fw W g r.2.2.2) := by
  subst ea0_o
  unfold f_208
  refine gQ_v1 (A := Fw W g) (om_164 hg_o hU_o rfl h_o) (fun v2 s1_l h812_o => ?_)
  refine gQ_ite ?_ ?_
  · unfold fb_208_14
    dsimp only
    refine gQ_ite ?_ ?_
    · exact gQ_ret (Fw_w h812_o rfl (hU_o 217 _ rfl))
    · refine gQ_ite ?_ ?_
      · unfold fb_208_39
        refine gQ_v1 (A := Fw W g) (om_160 hg_o hU_o rfl (Fw_w h812_o rfl (hU_o 217 _ rfl))) (fun v6 s5 h813_o => ?_)
        exact gQ_ret h813_o
      · unfold fb_208_39
        refine gQ_v1 (A := Fw W g) (om_160 hg_o hU_o rfl (Fw_w h812_o rfl (hU_o 217 _ rfl))) (fun v6 s5 h814_o => ?_)
        exact gQ_ret h814_o
  · unfold fb_208_14
    dsimp only
    refine gQ_ite ?_ ?_
    · exact gQ_ret (Fw_w h812_o rfl (hU_o 217 _ rfl))
    · refine gQ_ite ?_ ?_
      · unfold fb_208_39
        refine gQ_v1 (A := Fw W g) (om_160 hg_o hU_o rfl (Fw_w h812_o rfl (hU_o 217 _ rfl))) (fun v6 s5 h815_o => ?_)
        exact gQ_ret h815_o
      · unfold fb_208_39
        refine gQ_v1 (A := Fw W g) (om_160 hg_o hU_o rfl (Fw_w h812_o rfl (hU_o 217 _ rfl))) (fun v6 s5 h816_o => ?_)
        exact gQ_ret h816_o

theorem om_212 {W : Nat → Nat → Bool} {g s : gS} {a0 : Nat} {a1 : Int} {a2 : Int} (hg_o : RF g) (hU_o : ∀ a k, mss a k = true → W a k = true) (ea0_o : a0 = 217) (h_o : Fw W g s) : gQ (f_212 a0 a1 a2 s) (fun r => Fw W g r.2.2.2) := by
  subst ea0_o
  unfold f_212
  refine gQ_v1 (A := Fw W g) (om_159 hg_o hU_o rfl h_o) (fun v2 s1_l h817_o => ?_)
  refine gQ_ite ?_ ?_
  · exact gQ_ret h817_o
  · exact gQ_ret h817_o

theorem om_231 {W : Nat → Nat → Bool} {g s : gS} {a0 : Nat} {a1 : Int} (hg_o : RF g) (hU_o : ∀ a k, mss a k = true → W a k = true) (ea0_o : a0 = 217) (h_o : Fw W g s) : gQ (f_231 a0 a1 s) (fun r => Fw W g r.2.2.2) := by
  subst ea0_o
  unfold f_231
  refine gQ_loop (fun y_l => y_l.1 = 217 ∧ Fw W g (y_l.2.2.2.2)) (fun y_l hy_o => ?_) ⟨rfl, h_o⟩
  obtain ⟨x818_o, x819_o, x820_o, x821_o, x822_o⟩ := y_l
  obtain ⟨e824_o, h823_o⟩ := hy_o
  dsimp only at e824_o h823_o
  subst e824_o
  show gQ (sb_231_4 217 x819_o x820_o x821_o x822_o) _
  unfold sb_231_4
  refine gQ_ite ?_ ?_
  · refine gQ_v1 (A := Fw W g) (om_153 hg_o hU_o  h823_o) (fun v2 s1_l h825_o => ?_)
    refine gQ_ite ?_ ?_
    · exact gQ_ret ⟨rfl, h825_o⟩
    · refine gQ_v1 (A := Fw W g) (om_159 hg_o hU_o rfl h825_o) (fun v5 s4_l h826_o => ?_)
      exact gQ_ret ⟨rfl, h826_o⟩
  · refine gQ_map ?_
    exact gQ_ret h823_o

theorem om_232 {W : Nat → Nat → Bool} {g s : gS} {a0 : Nat} {a1 : Int} (hg_o : RF g) (hU_o : ∀ a k, mss a k = true → W a k = true) (ea0_o : a0 = 217) (h_o : Fw W g s) : gQ (f_232 a0 a1 s) (fun r => Fw W g r.2.2.2) := by
  subst ea0_o
  unfold f_232
  refine gQ_loop (fun y_l => y_l.1 = 217 ∧ Fw W g (y_l.2.2.2.2)) (fun y_l hy_o => ?_) ⟨rfl, h_o⟩
  obtain ⟨x827_o, x828_o, x829_o, x830_o, x831_o⟩ := y_l
  obtain ⟨e833_o, h832_o⟩ := hy_o
  dsimp only at e833_o h832_o
  subst e833_o
  show gQ (sb_232_4 217 x828_o x829_o x830_o x831_o) _
  unfold sb_232_4
  refine gQ_ite ?_ ?_
  · refine gQ_v1 (A := Fw W g) (om_153 hg_o hU_o  h832_o) (fun v2 s1_l h834_o => ?_)
    refine gQ_ite ?_ ?_
    · exact gQ_ret ⟨rfl, h834_o⟩
    · refine gQ_v1 (A := Fw W g) (om_158 hg_o hU_o rfl h834_o) (fun v5 s4_l h835_o => ?_)
      exact gQ_ret ⟨rfl, h835_o⟩
  · refine gQ_map ?_
    exact gQ_ret h832_o

theorem om_233 {W : Nat → Nat → Bool} {g s : gS} {a0 : Nat} {a1 : Int} {a2 : Int} (hg_o : RF g) (hU_o : ∀ a k, mss a k = true → W a k = true) (ea0_o : a0 = 217) (h_o : Fw W g s) : gQ (f_233 a0 a1 a2 s) (fun r => Fw W g r.2.2.2) := by
  subst ea0_o
  unfold f_233
  refine gQ_v1 (A := Fw W g) (om_162 hg_o hU_o rfl h_o) (fun v2 s1_l h836_o => ?_)
  refine gQ_ite ?_ ?_
  · unfold fb_233_14
    dsimp only
    refine gQ_ite ?_ ?_
    · refine gQ_v1 (A := Fw W g) (om_156 hg_o hU_o rfl (Fw_w h836_o rfl (hU_o 217 _ rfl))) (fun v6 s5 h837_o => ?_)
      refine gQ_v1 (A := Fw W g) (om_231 hg_o hU_o rfl h837_o) (fun v8 s7 h838_o => ?_)
      refine gQ_ite ?_ ?_
      · exact gQ_ret h838_o
      · unfold fb_233_45
        exact gQ_ret h838_o
    · unfold fb_233_45
      exact gQ_ret (Fw_w h836_o rfl (hU_o 217 _ rfl))
  · unfold fb_233_14
    dsimp only
    refine gQ_ite ?_ ?_
    · refine gQ_v1 (A := Fw W g) (om_156 hg_o hU_o rfl (Fw_w h836_o rfl (hU_o 217 _ rfl))) (fun v6 s5 h839_o => ?_)
      refine gQ_v1 (A := Fw W g) (om_231 hg_o hU_o rfl h839_o) (fun v8 s7 h840_o => ?_)
      refine gQ_ite ?_ ?_
      · exact gQ_ret h840_o
      · unfold fb_233_45
        exact gQ_ret h840_o
    · unfold fb_233_45
      exact gQ_ret (Fw_w h836_o rfl (hU_o 217 _ rfl))

theorem om_234 {W : Nat → Nat → Bool} {g s : gS} {a0 : Nat} {a1 : Int} {a2 : Int} (hg_o : RF g) (hU_o : ∀ a k, mss a k = true → W a k = true) (ea0_o : a0 = 217) (h_o : Fw W g s) : gQ (f_234 a0 a1 a2 s) (fun r => Fw W g r.2.2.2) := by
  subst ea0_o
  unfold f_234
  refine gQ_loop (fun y_l => y_l.1 = 217 ∧ Fw W g (y_l.2.2.2.2.2)) (fun y_l hy_o => ?_) ⟨rfl, h_o⟩
  obtain ⟨x841_o, x842_o, x843_o, x844_o, x845_o, x846_o⟩ := y_l
  obtain ⟨e848_o, h847_o⟩ := hy_o
  dsimp only at e848_o h847_o
  subst e848_o
  show gQ (sb_234_5 217 x842_o x843_o x844_o x845_o x846_o) _
  unfold sb_234_5
  refine gQ_ite ?_ ?_
  · refine gQ_v1 (A := Fw W g) (om_156 hg_o hU_o rfl h847_o) (fun v2 s1_l h849_o => ?_)
    refine gQ_v1 (A := Fw W g) (om_231 hg_o hU_o rfl h849_o) (fun v4_l s3_l h850_o => ?_)
    refine gQ_ite ?_ ?_
    · refine gQ_ite ?_ ?_
      · unfold fb_234_77
        exact gQ_ret ⟨rfl, h850_o⟩
      · refine gQ_ite ?_ ?_
        · refine gQ_v1 (A := Fw W g) (om_232 hg_o hU_o rfl h850_o) (fun v6 s5 h851_o => ?_)
          refine gQ_v1 (A := Fw W g) (om_232 hg_o hU_o rfl h851_o) (fun v8 s7 h852_o => ?_)
          refine gQ_ite ?_ ?_
          · unfold fb_234_77
            exact gQ_ret ⟨rfl, h852_o⟩
          · exact gQ_ret ⟨rfl, h852_o⟩
        · refine gQ_v1 (A := Fw W g) (om_154 hg_o hU_o  h850_o) (fun v10 s9 h853_o => ?_)
          refine gQ_v1 (A := Fw W g) (om_154 hg_o hU_o  h853_o) (fun v12 s11 h854_o => ?_)
          refine gQ_ite ?_ ?_
          · unfold fb_234_77
            exact gQ_ret ⟨rfl, h854_o⟩
          · exact gQ_ret ⟨rfl, h854_o⟩
    · exact gQ_ret ⟨rfl, h850_o⟩
  · refine gQ_map ?_
    exact gQ_ret h847_o

theorem om_235 {W : Nat → Nat → Bool} {g s : gS} {a0 : Nat} {a1 : Int} (hg_o : RF g) (hU_o : ∀ a k, mss a k = true → W a k = true) (ea0_o : a0 = 217) (h_o : Fw W g s) : gQ (f_235 a0 a1 s) (fun r => Fw W g r.2.2.2) := by
  subst ea0_o
  unfold f_235
  refine gQ_v1 (A := Fw W g) (om_162 hg_o hU_o rfl h_o) (fun v2 s1_l h855_o => ?_)
  refine gQ_ite ?_ ?_
  · unfold fb_235_14
    dsimp only
    refine gQ_ite ?_ ?_
    · exact gQ_ret (Fw_w h855_o rfl (hU_o 217 _ rfl))
    · refine gQ_v1 (A := Fw W g) (om_234 hg_o hU_o rfl (Fw_w h855_o rfl (hU_o 217 _ rfl))) (fun v6 s5 h856_o => ?_)
      exact gQ_ret h856_o
  · unfold fb_235_14
    dsimp only
    refine gQ_ite ?_ ?_
    · exact gQ_ret (Fw_w h855_o rfl (hU_o 217 _ rfl))
    · refine gQ_v1 (A := Fw W g) (om_234 hg_o hU_o rfl (Fw_w h855_o rfl (hU_o 217 _ rfl))) (fun v6 s5 h857_o => ?_)
      exact gQ_ret h857_o

theorem om_236 {W : Nat → Nat → Bool} {g s : gS} {a0 : Nat} {a1 : Int} {a2 : Int} (hg_o : RF g) (hU_o : ∀ a k, mss a k = true → W a k = true) (ea0_o : a0 = 217) (h_o : Fw W g s) : gQ (f_236 a0 a1 a2 s) (fun r => Fw W g r.2.2.2) := by
  subst ea0_o
  unfold f_236
  refine gQ_v1 (A := Fw W g) (om_162 hg_o hU_o rfl h_o) (fun v2 s1_l h858_o => ?_)
  refine gQ_ite ?_ ?_
  · unfold fb_236_14
    dsimp only
    refine gQ_ite ?_ ?_
    · exact gQ_ret (Fw_w h858_o rfl (hU_o 217 _ rfl))
    · refine gQ_v1 (A := Fw W g) (om_234 hg_o hU_o rfl (Fw_w h858_o rfl (hU_o 217 _ rfl))) (fun v6 s5 h859_o => ?_)
      refine gQ_ite ?_ ?_
      · unfold fb_236_50
        exact gQ_ret h859_o
      · refine gQ_ite ?_ ?_
        · unfold fb_236_50
          exact gQ_ret h859_o
        · refine gQ_v1 (A := Fw W g) (om_232 hg_o hU_o rfl h859_o) (fun v8 s7 h860_o => ?_)
          exact gQ_ret h860_o
  · unfold fb_236_14
    dsimp only
    refine gQ_ite ?_ ?_
    · exact gQ_ret (Fw_w h858_o rfl (hU_o 217 _ rfl))
    · refine gQ_v1 (A := Fw W g) (om_234 hg_o hU_o rfl (Fw_w h858_o rfl (hU_o 217 _ rfl))) (fun v6 s5 h861_o => ?_)
      refine gQ_ite ?_ ?_
      · unfold fb_236_50
        exact gQ_ret h861_o
      · refine gQ_ite ?_ ?_
        · unfold fb_236_50
          exact gQ_ret h861_o
        · refine gQ_v1 (A := Fw W g) (om_232 hg_o hU_o rfl h861_o) (fun v8 s7 h862_o => ?_)
          exact gQ_ret h862_o

theorem om_237 {W : Nat → Nat → Bool} {g s : gS} {a0 : Nat} {a1 : Int} (hg_o : RF g) (hU_o : ∀ a k, mss a k = true → W a k = true) (ea0_o : a0 = 217) (h_o : Fw W g s) : gQ (f_237 a0 a1 s) (fun r => Fw W g r.2.2.2) := by
  subst ea0_o
  unfold f_237
  refine gQ_v1 (A := Fw W g) (om_162 hg_o hU_o rfl h_o) (fun v2 s1_l h863_o => ?_)
  refine gQ_ite ?_ ?_
  · unfold fb_237_14
    dsimp only
    refine gQ_loop (fun y_l => y_l.1 = 217 ∧ Fw W g (y_l.2.2.2.2)) (fun y_l hy_o => ?_) ⟨rfl, (Fw_w h863_o rfl (hU_o 217 _ rfl))⟩
    obtain ⟨x864_o, x865_o, x866_o, x867_o, x868_o⟩ := y_l
    obtain ⟨e870_o, h869_o⟩ := hy_o
    dsimp only at e870_o h869_o
    subst e870_o
    show gQ (sb_237_21 217 x865_o x866_o x867_o x868_o) _
    unfold sb_237_21
    dsimp only
    refine gQ_ite ?_ ?_
    · refine gQ_ite ?_ ?_
      · refine gQ_v1 (A := Fw W g) (om_156 hg_o hU_o rfl h869_o) (fun v6 s5 h871_o => ?_)
        refine gQ_v1 (A := Fw W g) (om_212 hg_o hU_o rfl h871_o) (fun v8 s7 h872_o => ?_)
        refine gQ_ite ?_ ?_
        · exact gQ_ret ⟨rfl, h872_o⟩
        · exact gQ_ret ⟨rfl, h872_o⟩
      · refine gQ_map ?_
        exact gQ_ret h869_o
    · refine gQ_map ?_
      exact gQ_ret h869_o
  · unfold fb_237_14
    dsimp only
    refine gQ_loop (fun y_l => y_l.1 = 217 ∧ Fw W g (y_l.2.2.2.2)) (fun y_l hy_o => ?_) ⟨rfl, (Fw_w h863_o rfl (hU_o 217 _ rfl))⟩
    obtain ⟨x873_o, x874_o, x875_o, x876_o, x877_o⟩ := y_l
    obtain ⟨e879_o, h878_o⟩ := hy_o
    dsimp only at e879_o h878_o
    subst e879_o
    show gQ (sb_237_21 217 x874_o x875_o x876_o x877_o) _
    unfold sb_237_21
    dsimp only
    refine gQ_ite ?_ ?_
    · refine gQ_ite ?_ ?_
      · refine gQ_v1 (A := Fw W g) (om_156 hg_o hU_o rfl h878_o) (fun v6 s5 h880_o => ?_)
        refine gQ_v1 (A := Fw W g) (om_212 hg_o hU_o rfl h880_o) (fun v8 s7 h881_o => ?_)
        refine gQ_ite ?_ ?_
        · exact gQ_ret ⟨rfl, h881_o⟩
        · exact gQ_ret ⟨rfl, h881_o⟩
      · refine gQ_map ?_
        exact gQ_ret h878_o
    · refine gQ_map ?_
      exact gQ_ret h878_o

theorem om_238 {W : Nat → Nat → Bool} {g s : gS} {a0 : Nat} (hg_o : RF g) (hU_o : ∀ a k, mss a k = true → W a k = true) (ea0_o : a0 = 217) (h_o : Fw W g s) : gQ (f_238 a0 s) (fun r => Fw W g r.2.2.2) := by
  subst ea0_o
  unfold f_238
  dsimp only
  refine gQ_ite ?_ ?_
  · refine gQ_ite ?_ ?_
    · unfold fb_238_26
      unfold fb_238_27
      refine gQ_loop (fun y_l => y_l.1 = 217 ∧ Fw W g (y_l.2.2.2.2)) (fun y_l hy_o => ?_) ⟨rfl, (Fw_w h_o rfl (hU_o 217 _ rfl))⟩
      obtain ⟨x882_o, x883_o, x884_o, x885_o, x886_o⟩ := y_l
      obtain ⟨e888_o, h887_o⟩ := hy_o
      dsimp only at e888_o h887_o
      subst e888_o
      show gQ (sb_238_30 217 x883_o x884_o x885_o x886_o) _
      unfold sb_238_30
      refine gQ_ite ?_ ?_
      · refine gQ_ite ?_ ?_
        · refine gQ_map ?_
          unfold fb_238_76
          refine gQ_ite ?_ ?_
          · exact gQ_ret h887_o
          · refine gQ_loop (fun y_l => y_l.1 = 217 ∧ Fw W g (y_l.2.2.2.2)) (fun y_l hy_o => ?_) ⟨rfl, h887_o⟩
            obtain ⟨x889_o, x890_o, x891_o, x892_o, x893_o⟩ := y_l
            obtain ⟨e895_o, h894_o⟩ := hy_o
            dsimp only at e895_o h894_o
            subst e895_o
            show gQ (sb_238_87 217 x890_o x891_o x892_o x893_o) _
            unfold sb_238_87
            dsimp only
            refine gQ_ite ?_ ?_
            · refine gQ_chk2 (fun ha896_o hb897_o => ?_)
              refine gQ_bool ?_
              refine gQ_loop (fun y_l => y_l.1 = 217 ∧ Fw W g (y_l.2.2.2.2.2)) (fun y_l hy_o => ?_) ⟨rfl, (Fw_w h894_o (fr_r h894_o rfl (rr_217_23 hg_o)) (hU_o 229 _ rfl))⟩
              obtain ⟨x898_o, x899_o, x900_o, x901_o, x902_o, x903_o⟩ := y_l
              obtain ⟨e905_o, h904_o⟩ := hy_o
              dsimp only at e905_o h904_o
              subst e905_o
              show gQ (sb_238_105 217 x899_o x900_o x901_o x902_o x903_o) _
              unfold sb_238_105
              refine gQ_ite ?_ ?_
              · refine gQ_chk2 (fun ha906_o hb907_o => ?_)
                refine gQ_ite ?_ ?_
                · refine gQ_map ?_
                  unfold fb_238_173
                  refine gQ_chk2 (fun ha908_o hb909_o => ?_)
                  refine gQ_ite ?_ ?_
                  · exact gQ_ret ⟨rfl, h904_o⟩
                  · exact gQ_ret ⟨rfl, h904_o⟩
                · refine gQ_chk2 (fun ha910_o hb911_o => ?_)
                  refine gQ_v1 (A := Fw W g) (om_212 hg_o hU_o rfl h904_o) (fun v4_l s3_l h912_o => ?_)
                  refine gQ_chk2 (fun ha913_o hb914_o => ?_)
                  refine gQ_ite ?_ ?_
                  · unfold fb_238_158
                    dsimp only
                    refine gQ_ite ?_ ?_
                    · refine gQ_chk2 (fun ha915_o hb916_o => ?_)
                      refine gQ_bool ?_
                      exact gQ_ret ⟨rfl, (Fw_w h912_o (fr_r h904_o rfl (rr_217_23 hg_o)) (hU_o 229 _ rfl))⟩
                    · refine gQ_chk2 (fun ha917_o hb918_o => ?_)
                      refine gQ_bool ?_
                      exact gQ_ret ⟨rfl, (Fw_w h912_o (fr_r h904_o rfl (rr_217_23 hg_o)) (hU_o 229 _ rfl))⟩
                  · unfold fb_238_158
                    dsimp only
                    refine gQ_ite ?_ ?_
                    · refine gQ_chk2 (fun ha919_o hb920_o => ?_)
                      refine gQ_bool ?_
                      exact gQ_ret ⟨rfl, (Fw_w h912_o (fr_r h904_o rfl (rr_217_23 hg_o)) (hU_o 229 _ rfl))⟩
                    · refine gQ_chk2 (fun ha921_o hb922_o => ?_)
                      refine gQ_bool ?_
                      exact gQ_ret ⟨rfl, (Fw_w h912_o (fr_r h904_o rfl (rr_217_23 hg_o)) (hU_o 229 _ rfl))⟩
              · refine gQ_map ?_
                unfold fb_238_173
                refine gQ_chk2 (fun ha923_o hb924_o => ?_)
                refine gQ_ite ?_ ?_
                · exact gQ_ret ⟨rfl, h904_o⟩
                · exact gQ_ret ⟨rfl, h904_o⟩
            · refine gQ_map ?_
              exact gQ_ret h894_o
        · refine gQ_chk2 (fun ha925_o hb926_o => ?_)
          refine gQ_ite ?_ ?_
          · unfold fb_238_61
            refine gQ_ite ?_ ?_
            · exact gQ_ret ⟨rfl, h887_o⟩
            · exact gQ_ret ⟨rfl, h887_o⟩
          · unfold fb_238_61
            refine gQ_ite ?_ ?_
            · exact gQ_ret ⟨rfl, h887_o⟩
            · exact gQ_ret ⟨rfl, h887_o⟩
      · refine gQ_map ?_
        unfold fb_238_76
        refine gQ_ite ?_ ?_
        · exact gQ_ret h887_o
        · refine gQ_loop (fun y_l => y_l.1 = 217 ∧ Fw W g (y_l.2.2.2.2)) (fun y_l hy_o => ?_) ⟨rfl, h887_o⟩
          obtain ⟨x927_o, x928_o, x929_o, x930_o, x931_o⟩ := y_l
          obtain ⟨e933_o, h932_o⟩ := hy_o
          dsimp only at e933_o h932_o
          subst e933_o
          show gQ (sb_238_87 217 x928_o x929_o x930_o x931_o) _
          unfold sb_238_87
          dsimp only
          refine gQ_ite ?_ ?_
          · refine gQ_chk2 (fun ha934_o hb935_o => ?_)
            refine gQ_bool ?_
            refine gQ_loop (fun y_l => y_l.1 = 217 ∧ Fw W g (y_l.2.2.2.2.2)) (fun y_l hy_o => ?_) ⟨rfl, (Fw_w h932_o (fr_r h932_o rfl (rr_217_23 hg_o)) (hU_o 229 _ rfl))⟩
            obtain ⟨x936_o, x937_o, x938_o, x939_o, x940_o, x941_o⟩ := y_l
            obtain ⟨e943_o, h942_o⟩ := hy_o
            dsimp only at e943_o h942_o
            subst e943_o
            show gQ (sb_238_105 217 x937_o x938_o x939_o x940_o x941_o) _
            unfold sb_238_105
            refine gQ_ite ?_ ?_
            · refine gQ_chk2 (fun ha944_o hb945_o => ?_)
              refine gQ_ite ?_ ?_
              · refine gQ_map ?_
                unfold fb_238_173
                refine gQ_chk2 (fun ha946_o hb947_o => ?_)
                refine gQ_ite ?_ ?_
                · exact gQ_ret ⟨rfl, h942_o⟩
                · exact gQ_ret ⟨rfl, h942_o⟩
              · refine gQ_chk2 (fun ha948_o hb949_o => ?_)
                refine gQ_v1 (A := Fw W g) (om_212 hg_o hU_o rfl h942_o) (fun v4_l s3_l h950_o => ?_)
                refine gQ_chk2 (fun ha951_o hb952_o => ?_)
                refine gQ_ite ?_ ?_
                · unfold fb_238_158
                  dsimp only
                  refine gQ_ite ?_ ?_
                  · refine gQ_chk2 (fun ha953_o hb954_o => ?_)
                    refine gQ_bool ?_
                    exact gQ_ret ⟨rfl, (Fw_w h950_o (fr_r h942_o rfl (rr_217_23 hg_o)) (hU_o 229 _ rfl))⟩
                  · refine gQ_chk2 (fun ha955_o hb956_o => ?_)
                    refine gQ_bool ?_
                    exact gQ_ret ⟨rfl, (Fw_w h950_o (fr_r h942_o rfl (rr_217_23 hg_o)) (hU_o 229 _ rfl))⟩
                · unfold fb_238_158
                  dsimp only
                  refine gQ_ite ?_ ?_
                  · refine gQ_chk2 (fun ha957_o hb958_o => ?_)
                    refine gQ_bool ?_
                    exact gQ_ret ⟨rfl, (Fw_w h950_o (fr_r h942_o rfl (rr_217_23 hg_o)) (hU_o 229 _ rfl))⟩
                  · refine gQ_chk2 (fun ha959_o hb960_o => ?_)
                    refine gQ_bool ?_
                    exact gQ_ret ⟨rfl, (Fw_w h950_o (fr_r h942_o rfl (rr_217_23 hg_o)) (hU_o 229 _ rfl))⟩
            · refine gQ_map ?_
              unfold fb_238_173
              refine gQ_chk2 (fun ha961_o hb962_o => ?_)
              refine gQ_ite ?_ ?_
              · exact gQ_ret ⟨rfl, h942_o⟩
              · exact gQ_ret ⟨rfl, h942_o⟩
          · refine gQ_map ?_
            exact gQ_ret h932_o
    · unfold fb_238_27
      refine gQ_loop (fun y_l => y_l.1 = 217 ∧ Fw W g (y_l.2.2.2.2)) (fun y_l hy_o => ?_) ⟨rfl, (Fw_w h_o rfl (hU_o 217 _ rfl))⟩
      obtain ⟨x963_o, x964_o, x965_o, x966_o, x967_o⟩ := y_l
      obtain ⟨e969_o, h968_o⟩ := hy_o
      dsimp only at e969_o h968_o
      subst e969_o
      show gQ (sb_238_30 217 x964_o x965_o x966_o x967_o) _
      unfold sb_238_30
      refine gQ_ite ?_ ?_
      · refine gQ_ite ?_ ?_
        · refine gQ_map ?_
          unfold fb_238_76
          refine gQ_ite ?_ ?_
          · exact gQ_ret h968_o
          · refine gQ_loop (fun y_l => y_l.1 = 217 ∧ Fw W g (y_l.2.2.2.2)) (fun y_l hy_o => ?_) ⟨rfl, h968_o⟩
            obtain ⟨x970_o, x971_o, x972_o, x973_o, x974_o⟩ := y_l
            obtain ⟨e976_o, h975_o⟩ := hy_o
            dsimp only at e976_o h975_o
            subst e976_o
            show gQ (sb_238_87 217 x971_o x972_o x973_o x974_o) _
            unfold sb_238_87
            dsimp only
            refine gQ_ite ?_ ?_
            · refine gQ_chk2 (fun ha977_o hb978_o => ?_)
              refine gQ_bool ?_
              refine gQ_loop (fun y_l => y_l.1 = 217 ∧ Fw W g (y_l.2.2.2.2.2)) (fun y_l hy_o => ?_) ⟨rfl, (Fw_w h975_o (fr_r h975_o rfl (rr_217_23 hg_o)) (hU_o 229 _ rfl))⟩
              obtain ⟨x979_o, x980_o, x981_o, x982_o, x983_o, x984_o⟩ := y_l
              obtain ⟨e986_o, h985_o⟩ := hy_o
              dsimp only at e986_o h985_o
              subst e986_o
              show gQ (sb_238_105 217 x980_o x981_o x982_o x983_o x984_o) _
              unfold sb_238_105
              refine gQ_ite ?_ ?_
              · refine gQ_chk2 (fun ha987_o hb988_o => ?_)
                refine gQ_ite ?_ ?_
                · refine gQ_map ?_
                  unfold fb_238_173
                  refine gQ_chk2 (fun ha989_o hb990_o => ?_)
                  refine gQ_ite ?_ ?_
                  · exact gQ_ret ⟨rfl, h985_o⟩
                  · exact gQ_ret ⟨rfl, h985_o⟩
                · refine gQ_chk2 (fun ha991_o hb992_o => ?_)
                  refine gQ_v1 (A := Fw W g) (om_212 hg_o hU_o rfl h985_o) (fun v4_l s3_l h993_o => ?_)
                  refine gQ_chk2 (fun ha994_o hb995_o => ?_)
                  refine gQ_ite ?_ ?_
                  · unfold fb_238_158
                    dsimp only
                    refine gQ_ite ?_ ?_
                    · refine gQ_chk2 (fun ha996_o hb997_o => ?_)
                      refine gQ_bool ?_
                      exact gQ_ret ⟨rfl, (Fw_w h993_o (fr_r h985_o rfl (rr_217_23 hg_o)) (hU_o 229 _ rfl))⟩
                    · refine gQ_chk2 (fun ha998_o hb999_o => ?_)
                      refine gQ_bool ?_
                      exact gQ_ret ⟨rfl, (Fw_w h993_o (fr_r h985_o rfl (rr_217_23 hg_o)) (hU_o 229 _ rfl))⟩
                  · unfold fb_238_158
                    dsimp only
                    refine gQ_ite ?_ ?_
                    · refine gQ_chk2 (fun ha1000_o hb1001_o => ?_)
                      refine gQ_bool ?_
                      exact gQ_ret ⟨rfl, (Fw_w h993_o (fr_r h985_o rfl (rr_217_23 hg_o)) (hU_o 229 _ rfl))⟩
                    · refine gQ_chk2 (fun ha1002_o hb1003_o => ?_)
                      refine gQ_bool ?_
                      exact gQ_ret ⟨rfl, (Fw_w h993_o (fr_r h985_o rfl (rr_217_23 hg_o)) (hU_o 229 _ rfl))⟩
              · refine gQ_map ?_
                unfold fb_238_173
                refine gQ_chk2 (fun ha1004_o hb1005_o => ?_)
                refine gQ_ite ?_ ?_
                · exact gQ_ret ⟨rfl, h985_o⟩
                · exact gQ_ret ⟨rfl, h985_o⟩
            · refine gQ_map ?_
              exact gQ_ret h975_o
        · refine gQ_chk2 (fun ha1006_o hb1007_o => ?_)
          refine gQ_ite ?_ ?_
          · unfold fb_238_61
            refine gQ_ite ?_ ?_
            · exact gQ_ret ⟨rfl, h968_o⟩
            · exact gQ_ret ⟨rfl, h968_o⟩
          · unfold fb_238_61
            refine gQ_ite ?_ ?_
            · exact gQ_ret ⟨rfl, h968_o⟩
            · exact gQ_ret ⟨rfl, h968_o⟩
      · refine gQ_map ?_
        unfold fb_238_76
        refine gQ_ite ?_ ?_
        · exact gQ_ret h968_o
        · refine gQ_loop (fun y_l => y_l.1 = 217 ∧ Fw W g (y_l.2.2.2.2)) (fun y_l hy_o => ?_) ⟨rfl, h968_o⟩
          obtain ⟨x1008_o, x1009_o, x1010_o, x1011_o, x1012_o⟩ := y_l
          obtain ⟨e1014_o, h1013_o⟩ := hy_o
          dsimp only at e1014_o h1013_o
          subst e1014_o
          show gQ (sb_238_87 217 x1009_o x1010_o x1011_o x1012_o) _
          unfold sb_238_87
          dsimp only
          refine gQ_ite ?_ ?_
          · refine gQ_chk2 (fun ha1015_o hb1016_o => ?_)
            refine gQ_bool ?_
            refine gQ_loop (fun y_l => y_l.1 = 217 ∧ Fw W g (y_l.2.2.2.2.2)) (fun y_l hy_o => ?_) ⟨rfl, (Fw_w h1013_o (fr_r h1013_o rfl (rr_217_23 hg_o)) (hU_o 229 _ rfl))⟩
            obtain ⟨x1017_o, x1018_o, x1019_o, x1020_o, x1021_o, x1022_o⟩ := y_l
            obtain ⟨e1024_o, h1023_o⟩ := hy_o
            dsimp only at e1024_o h1023_o
            subst e1024_o
            show gQ (sb_238_105 217 x1018_o x1019_o x1020_o x1021_o x1022_o) _
            unfold sb_238_105
            refine gQ_ite ?_ ?_
            · refine gQ_chk2 (fun ha1025_o hb1026_o => ?_)
              refine gQ_ite ?_ ?_
              · refine gQ_map ?_
                unfold fb_238_173
                refine gQ_chk2 (fun ha1027_o hb1028_o => ?_)
                refine gQ_ite ?_ ?_
                · exact gQ_ret ⟨rfl, h1023_o⟩
                · exact gQ_ret ⟨rfl, h1023_o⟩
              · refine gQ_chk2 (fun ha1029_o hb1030_o => ?_)
                refine gQ_v1 (A := Fw W g) (om_212 hg_o hU_o rfl h1023_o) (fun v4_l s3_l h1031_o => ?_)
                refine gQ_chk2 (fun ha1032_o hb1033_o => ?_)
                refine gQ_ite ?_ ?_
                · unfold fb_238_158
                  dsimp only
                  refine gQ_ite ?_ ?_
                  · refine gQ_chk2 (fun ha1034_o hb1035_o => ?_)
                    refine gQ_bool ?_
                    exact gQ_ret ⟨rfl, (Fw_w h1031_o (fr_r h1023_o rfl (rr_217_23 hg_o)) (hU_o 229 _ rfl))⟩
                  · refine gQ_chk2 (fun ha1036_o hb1037_o => ?_)
                    refine gQ_bool ?_
                    exact gQ_ret ⟨rfl, (Fw_w h1031_o (fr_r h1023_o rfl (rr_217_23 hg_o)) (hU_o 229 _ rfl))⟩
                · unfold fb_238_158
                  dsimp only
                  refine gQ_ite ?_ ?_
                  · refine gQ_chk2 (fun ha1038_o hb1039_o => ?_)
                    refine gQ_bool ?_
                    exact gQ_ret ⟨rfl, (Fw_w h1031_o (fr_r h1023_o rfl (rr_217_23 hg_o)) (hU_o 229 _ rfl))⟩
                  · refine gQ_chk2 (fun ha1040_o hb1041_o => ?_)
                    refine gQ_bool ?_
                    exact gQ_ret ⟨rfl, (Fw_w h1031_o (fr_r h1023_o rfl (rr_217_23 hg_o)) (hU_o 229 _ rfl))⟩
            · refine gQ_map ?_
              unfold fb_238_173
              refine gQ_chk2 (fun ha1042_o hb1043_o => ?_)
              refine gQ_ite ?_ ?_
              · exact gQ_ret ⟨rfl, h1023_o⟩
              · exact gQ_ret ⟨rfl, h1023_o⟩
          · refine gQ_map ?_
            exact gQ_ret h1013_o
  · unfold fb_238_26
    unfold fb_238_27
    refine gQ_loop (fun y_l => y_l.1 = 217 ∧ Fw W g (y_l.2.2.2.2)) (fun y_l hy_o => ?_) ⟨rfl, (Fw_w h_o rfl (hU_o 217 _ rfl))⟩
    obtain ⟨x1044_o, x1045_o, x1046_o, x1047_o, x1048_o⟩ := y_l
    obtain ⟨e1050_o, h1049_o⟩ := hy_o
    dsimp only at e1050_o h1049_o
    subst e1050_o
    show gQ (sb_238_30 217 x1045_o x1046_o x1047_o x1048_o) _
    unfold sb_238_30
    refine gQ_ite ?_ ?_
    · refine gQ_ite ?_ ?_
      · refine gQ_map ?_
        unfold fb_238_76
        refine gQ_ite ?_ ?_
        · exact gQ_ret h1049_o
        · refine gQ_loop (fun y_l => y_l.1 = 217 ∧ Fw W g (y_l.2.2.2.2)) (fun y_l hy_o => ?_) ⟨rfl, h1049_o⟩
          obtain ⟨x1051_o, x1052_o, x1053_o, x1054_o, x1055_o⟩ := y_l
          obtain ⟨e1057_o, h1056_o⟩ := hy_o
          dsimp only at e1057_o h1056_o
          subst e1057_o
          show gQ (sb_238_87 217 x1052_o x1053_o x1054_o x1055_o) _
          unfold sb_238_87
          dsimp only
          refine gQ_ite ?_ ?_
          · refine gQ_chk2 (fun ha1058_o hb1059_o => ?_)
            refine gQ_bool ?_
            refine gQ_loop (fun y_l => y_l.1 = 217 ∧ Fw W g (y_l.2.2.2.2.2)) (fun y_l hy_o => ?_) ⟨rfl, (Fw_w h1056_o (fr_r h1056_o rfl (rr_217_23 hg_o)) (hU_o 229 _ rfl))⟩
            obtain ⟨x1060_o, x1061_o, x1062_o, x1063_o, x1064_o, x1065_o⟩ := y_l
            obtain ⟨e1067_o, h1066_o⟩ := hy_o
            dsimp only at e1067_o h1066_o
            subst e1067_o
            show gQ (sb_238_105 217 x1061_o x1062_o x1063_o x1064_o x1065_o) _
            unfold sb_238_105
            refine gQ_ite ?_ ?_
            · refine gQ_chk2 (fun ha1068_o hb1069_o => ?_)
              refine gQ_ite ?_ ?_
              · refine gQ_map ?_
                unfold fb_238_173
                refine gQ_chk2 (fun ha1070_o hb1071_o => ?_)
                refine gQ_ite ?_ ?_
                · exact gQ_ret ⟨rfl, h1066_o⟩
                · exact gQ_ret ⟨rfl, h1066_o⟩
              · refine gQ_chk2 (fun ha1072_o hb1073_o => ?_)
                refine gQ_v1 (A := Fw W g) (om_212 hg_o hU_o rfl h1066_o) (fun v4_l s3_l h1074_o => ?_)
                refine gQ_chk2 (fun ha1075_o hb1076_o => ?_)
                refine gQ_ite ?_ ?_
                · unfold fb_238_158
                  dsimp only
                  refine gQ_ite ?_ ?_
                  · refine gQ_chk2 (fun ha1077_o hb1078_o => ?_)
                    refine gQ_bool ?_
                    exact gQ_ret ⟨rfl, (Fw_w h1074_o (fr_r h1066_o rfl (rr_217_23 hg_o)) (hU_o 229 _ rfl))⟩
                  · refine gQ_chk2 (fun ha1079_o hb1080_o => ?_)
                    refine gQ_bool ?_
                    exact gQ_ret ⟨rfl, (Fw_w h1074_o (fr_r h1066_o rfl (rr_217_23 hg_o)) (hU_o 229 _ rfl))⟩
                · unfold fb_238_158
                  dsimp only
                  refine gQ_ite ?_ ?_
                  · refine gQ_chk2 (fun ha1081_o hb1082_o => ?_)
                    refine gQ_bool ?_
                    exact gQ_ret ⟨rfl, (Fw_w h1074_o (fr_r h1066_o rfl (rr_217_23 hg_o)) (hU_o 229 _ rfl))⟩
                  · refine gQ_chk2 (fun ha1083_o hb1084_o => ?_)
                    refine gQ_bool ?_
                    exact gQ_ret ⟨rfl, (Fw_w h1074_o (fr_r h1066_o rfl (rr_217_23 hg_o)) (hU_o 229 _ rfl))⟩
            · refine gQ_map ?_
              unfold fb_238_173
              refine gQ_chk2 (fun ha1085_o hb1086_o => ?_)
              refine gQ_ite ?_ ?_
              · exact gQ_ret ⟨rfl, h1066_o⟩
              · exact gQ_ret ⟨rfl, h1066_o⟩
          · refine gQ_map ?_
            exact gQ_ret h1056_o
      · refine gQ_chk2 (fun ha1087_o hb1088_o => ?_)
        refine gQ_ite ?_ ?_
        · unfold fb_238_61
          refine gQ_ite ?_ ?_
          · exact gQ_ret ⟨rfl, h1049_o⟩
          · exact gQ_ret ⟨rfl, h1049_o⟩
        · unfold fb_238_61
          refine gQ_ite ?_ ?_
          · exact gQ_ret ⟨rfl, h1049_o⟩
          · exact gQ_ret ⟨rfl, h1049_o⟩
    · refine gQ_map ?_
      unfold fb_238_76
      refine gQ_ite ?_ ?_
      · exact gQ_ret h1049_o
      · refine gQ_loop (fun y_l => y_l.1 = 217 ∧ Fw W g (y_l.2.2.2.2)) (fun y_l hy_o => ?_) ⟨rfl, h1049_o⟩
        obtain ⟨x1089_o, x1090_o, x1091_o, x1092_o, x1093_o⟩ := y_l
        obtain ⟨e1095_o, h1094_o⟩ := hy_o
        dsimp only at e1095_o h1094_o
        subst e1095_o
        show gQ (sb_238_87 217 x1090_o x1091_o x1092_o x1093_o) _
        unfold sb_238_87
        dsimp only
        refine gQ_ite ?_ ?_
        · refine gQ_chk2 (fun ha1096_o hb1097_o => ?_)
          refine gQ_bool ?_
          refine gQ_loop (fun y_l => y_l.1 = 217 ∧ Fw W g (y_l.2.2.2.2.2)) (fun y_l hy_o => ?_) ⟨rfl, (Fw_w h1094_o (fr_r h1094_o rfl (rr_217_23 hg_o)) (hU_o 229 _ rfl))⟩
          obtain ⟨x1098_o, x1099_o, x1100_o, x1101_o, x1102_o, x1103_o⟩ := y_l
          obtain ⟨e1105_o, h1104_o⟩ := hy_o
          dsimp only at e1105_o h1104_o
          subst e1105_o
          show gQ (sb_238_105 217 x1099_o x1100_o x1101_o x1102_o x1103_o) _
          unfold sb_238_105
          refine gQ_ite ?_ ?_
          · refine gQ_chk2 (fun ha1106_o hb1107_o => ?_)
            refine gQ_ite ?_ ?_
            · refine gQ_map ?_
              unfold fb_238_173
              refine gQ_chk2 (fun ha1108_o hb1109_o => ?_)
              refine gQ_ite ?_ ?_
              · exact gQ_ret ⟨rfl, h1104_o⟩
              · exact gQ_ret ⟨rfl, h1104_o⟩
            · refine gQ_chk2 (fun ha1110_o hb1111_o => ?_)
              refine gQ_v1 (A := Fw W g) (om_212 hg_o hU_o rfl h1104_o) (fun v4_l s3_l h1112_o => ?_)
              refine gQ_chk2 (fun ha1113_o hb1114_o => ?_)
              refine gQ_ite ?_ ?_
              · unfold fb_238_158
                dsimp only
                refine gQ_ite ?_ ?_
                · refine gQ_chk2 (fun ha1115_o hb1116_o => ?_)
                  refine gQ_bool ?_
                  exact gQ_ret ⟨rfl, (Fw_w h1112_o (fr_r h1104_o rfl (rr_217_23 hg_o)) (hU_o 229 _ rfl))⟩
                · refine gQ_chk2 (fun ha1117_o hb1118_o => ?_)
                  refine gQ_bool ?_
                  exact gQ_ret ⟨rfl, (Fw_w h1112_o (fr_r h1104_o rfl (rr_217_23 hg_o)) (hU_o 229 _ rfl))⟩
              · unfold fb_238_158
                dsimp only
                refine gQ_ite ?_ ?_
                · refine gQ_chk2 (fun ha1119_o hb1120_o => ?_)
                  refine gQ_bool ?_
                  exact gQ_ret ⟨rfl, (Fw_w h1112_o (fr_r h1104_o rfl (rr_217_23 hg_o)) (hU_o 229 _ rfl))⟩
                · refine gQ_chk2 (fun ha1121_o hb1122_o => ?_)
                  refine gQ_bool ?_
                  exact gQ_ret ⟨rfl, (Fw_w h1112_o (fr_r h1104_o rfl (rr_217_23 hg_o)) (hU_o 229 _ rfl))⟩
          · refine gQ_map ?_
            unfold fb_238_173
            refine gQ_chk2 (fun ha1123_o hb1124_o => ?_)
            refine gQ_ite ?_ ?_
            · exact gQ_ret ⟨rfl, h1104_o⟩
            · exact gQ_ret ⟨rfl, h1104_o⟩
        · refine gQ_map ?_
          exact gQ_ret h1094_o

theorem om_239 {W : Nat → Nat → Bool} {g s : gS} {a0 : Nat} {a1 : Int} (hg_o : RF g) (hU_o : ∀ a k, mss a k = true → W a k = true) (ea0_o : a0 = 217) (h_o : Fw W g s) : gQ (f_239 a0 a1 s) (fun r => Fw W g r.2.2.2) := by
  subst ea0_o
  unfold f_239
  refine gQ_v1 (A := Fw W g) (om_238 hg_o hU_o rfl h_o) (fun v2 s1_l h1125_o => ?_)
  refine gQ_ite ?_ ?_
  · unfold fb_239_16
    dsimp only
    refine gQ_ite ?_ ?_
    · unfold fb_239_30
      refine gQ_ite ?_ ?_
      · exact gQ_ret (Fw_w h1125_o rfl (hU_o 217 _ rfl))
      · exact gQ_ret (Fw_w h1125_o rfl (hU_o 217 _ rfl))
    · refine gQ_ite ?_ ?_
      · unfold fb_239_30
        refine gQ_ite ?_ ?_
        · exact gQ_ret (Fw_w h1125_o rfl (hU_o 217 _ rfl))
        · exact gQ_ret (Fw_w h1125_o rfl (hU_o 217 _ rfl))
      · refine gQ_ite ?_ ?_
        · unfold fb_239_53
          refine gQ_loop (fun y_l => y_l.1 = 217 ∧ Fw W g (y_l.2.2.2)) (fun y_l hy_o => ?_) ⟨rfl, (Fw_w h1125_o rfl (hU_o 217 _ rfl))⟩
          obtain ⟨x1126_o, x1127_o, x1128_o, x1129_o⟩ := y_l
          obtain ⟨e1131_o, h1130_o⟩ := hy_o
          dsimp only at e1131_o h1130_o
          subst e1131_o
          show gQ (sb_239_57 217 x1127_o x1128_o x1129_o) _
          unfold sb_239_57
          refine gQ_ite ?_ ?_
          · refine gQ_chk2 (fun ha1132_o hb1133_o => ?_)
            refine gQ_ite ?_ ?_
            · exact gQ_ret ⟨rfl, h1130_o⟩
            · exact gQ_ret ⟨rfl, h1130_o⟩
          · refine gQ_map ?_
            exact gQ_ret h1130_o
        · unfold fb_239_53
          refine gQ_loop (fun y_l => y_l.1 = 217 ∧ Fw W g (y_l.2.2.2)) (fun y_l hy_o => ?_) ⟨rfl, (Fw_w h1125_o rfl (hU_o 217 _ rfl))⟩
          obtain ⟨x1134_o, x1135_o, x1136_o, x1137_o⟩ := y_l
          obtain ⟨e1139_o, h1138_o⟩ := hy_o
          dsimp only at e1139_o h1138_o
          subst e1139_o
          show gQ (sb_239_57 217 x1135_o x1136_o x1137_o) _
          unfold sb_239_57
          refine gQ_ite ?_ ?_
          · refine gQ_chk2 (fun ha1140_o hb1141_o => ?_)
            refine gQ_ite ?_ ?_
            · exact gQ_ret ⟨rfl, h1138_o⟩
            · exact gQ_ret ⟨rfl, h1138_o⟩
          · refine gQ_map ?_
            exact gQ_ret h1138_o
  · unfold fb_239_16
    dsimp only
    refine gQ_ite ?_ ?_
    · unfold fb_239_30
      refine gQ_ite ?_ ?_
      · exact gQ_ret (Fw_w h1125_o rfl (hU_o 217 _ rfl))
      · exact gQ_ret (Fw_w h1125_o rfl (hU_o 217 _ rfl))
    · refine gQ_ite ?_ ?_
      · unfold fb_239_30
        refine gQ_ite ?_ ?_
        · exact gQ_ret (Fw_w h1125_o rfl (hU_o 217 _ rfl))
        · exact gQ_ret (Fw_w h1125_o rfl (hU_o 217 _ rfl))
      · refine gQ_ite ?_ ?_
        · unfold fb_239_53
          refine gQ_loop (fun y_l => y_l.1 = 217 ∧ Fw W g (y_l.2.2.2)) (fun y_l hy_o => ?_) ⟨rfl, (Fw_w h1125_o rfl (hU_o 217 _ rfl))⟩
          obtain ⟨x1142_o, x1143_o, x1144_o, x1145_o⟩ := y_l
          obtain ⟨e1147_o, h1146_o⟩ := hy_o
          dsimp only at e1147_o h1146_o
          subst e1147_o
          show gQ (sb_239_57 217 x1143_o x1144_o x1145_o) _
          unfold sb_239_57
          refine gQ_ite ?_ ?_
          · refine gQ_chk2 (fun ha1148_o hb1149_o => ?_)
            refine gQ_ite ?_ ?_
            · exact gQ_ret ⟨rfl, h1146_o⟩
            · exact gQ_ret ⟨rfl, h1146_o⟩
          · refine gQ_map ?_
            exact gQ_ret h1146_o
        · unfold fb_239_53
          refine gQ_loop (fun y_l => y_l.1 = 217 ∧ Fw W g (y_l.2.2.2)) (fun y_l hy_o => ?_) ⟨rfl, (Fw_w h1125_o rfl (hU_o 217 _ rfl))⟩
          obtain ⟨x1150_o, x1151_o, x1152_o, x1153_o⟩ := y_l
          obtain ⟨e1155_o, h1154_o⟩ := hy_o
          dsimp only at e1155_o h1154_o
          subst e1155_o
          show gQ (sb_239_57 217 x1151_o x1152_o x1153_o) _
          unfold sb_239_57
          refine gQ_ite ?_ ?_
          · refine gQ_chk2 (fun ha1156_o hb1157_o => ?_)
            refine gQ_ite ?_ ?_
            · exact gQ_ret ⟨rfl, h1154_o⟩
            · exact gQ_ret ⟨rfl, h1154_o⟩
          · refine gQ_map ?_
            exact gQ_ret h1154_o

theorem om_240 {W : Nat → Nat → Bool} {g s : gS} {a0 : Nat} (hg_o : RF g) (hU_o : ∀ a k, mss a k = true → W a k = true) (ea0_o : a0 = 217) (h_o : Fw W g s) : gQ (f_240 a0 s) (fun r => Fw W g r.2.2.2) := by
  subst ea0_o
  unfold f_240
  refine gQ_v1 (A := Fw W g) (om_238 hg_o hU_o rfl h_o) (fun v2 s1_l h1158_o => ?_)
  refine gQ_ite ?_ ?_
  · unfold fb_240_16
    dsimp only
    refine gQ_ite ?_ ?_
    · exact gQ_ret (Fw_w h1158_o rfl (hU_o 217 _ rfl))
    · refine gQ_loop (fun y_l => y_l.1 = 217 ∧ Fw W g (y_l.2.2.2.2.2)) (fun y_l hy_o => ?_) ⟨rfl, (Fw_w h1158_o rfl (hU_o 217 _ rfl))⟩
      obtain ⟨x1159_o, x1160_o, x1161_o, x1162_o, x1163_o, x1164_o⟩ := y_l
      obtain ⟨e1166_o, h1165_o⟩ := hy_o
      dsimp only at e1166_o h1165_o
      subst e1166_o
      show gQ (sb_240_37 217 x1160_o x1161_o x1162_o x1163_o x1164_o) _
      unfold sb_240_37
      refine gQ_ite ?_ ?_
      · refine gQ_ite ?_ ?_
        · refine gQ_loop (fun y_l => y_l.1 = 217 ∧ Fw W g (y_l.2.2.2.2.2.2.2)) (fun y_l hy_o => ?_) ⟨rfl, h1165_o⟩
          obtain ⟨x1167_o, x1168_o, x1169_o, x1170_o, x1171_o, x1172_o, x1173_o, x1174_o⟩ := y_l
          obtain ⟨e1176_o, h1175_o⟩ := hy_o
          dsimp only at e1176_o h1175_o
          subst e1176_o
          show gQ (sb_240_59 217 x1168_o x1169_o x1170_o x1171_o x1172_o x1173_o x1174_o) _
          unfold sb_240_59
          refine gQ_ite ?_ ?_
          · refine gQ_chk2 (fun ha1177_o hb1178_o => ?_)
            refine gQ_ite ?_ ?_
            · unfold fb_240_93
              exact gQ_ret ⟨rfl, h1175_o⟩
            · refine gQ_v1 (A := Fw W g) (om_212 hg_o hU_o rfl h1175_o) (fun v5 s4_l h1179_o => ?_)
              refine gQ_ite ?_ ?_
              · unfold fb_240_93
                exact gQ_ret ⟨rfl, h1179_o⟩
              · exact gQ_ret ⟨rfl, h1179_o⟩
          · refine gQ_map ?_
            refine gQ_v1 (A := Fw W g) (om_152 hg_o hU_o  h1175_o) (fun v8 s7 h1180_o => ?_)
            refine gQ_ite ?_ ?_
            · refine gQ_v1 (A := Fw W g) (om_152 hg_o hU_o  h1180_o) (fun v10 s9 h1181_o => ?_)
              exact gQ_ret ⟨rfl, h1181_o⟩
            · exact gQ_ret ⟨rfl, h1180_o⟩
        · refine gQ_map ?_
          exact gQ_ret h1165_o
      · refine gQ_map ?_
        exact gQ_ret h1165_o
  · unfold fb_240_16
    dsimp only
    refine gQ_ite ?_ ?_
    · exact gQ_ret (Fw_w h1158_o rfl (hU_o 217 _ rfl))
    · refine gQ_loop (fun y_l => y_l.1 = 217 ∧ Fw W g (y_l.2.2.2.2.2)) (fun y_l hy_o => ?_) ⟨rfl, (Fw_w h1158_o rfl (hU_o 217 _ rfl))⟩
      obtain ⟨x1182_o, x1183_o, x1184_o, x1185_o, x1186_o, x1187_o⟩ := y_l
      obtain ⟨e1189_o, h1188_o⟩ := hy_o
      dsimp only at e1189_o h1188_o
      subst e1189_o
      show gQ (sb_240_37 217 x1183_o x1184_o x1185_o x1186_o x1187_o) _
      unfold sb_240_37
      refine gQ_ite ?_ ?_
      · refine gQ_ite ?_ ?_
        · refine gQ_loop (fun y_l => y_l.1 = 217 ∧ Fw W g (y_l.2.2.2.2.2.2.2)) (fun y_l hy_o => ?_) ⟨rfl, h1188_o⟩
          obtain ⟨x1190_o, x1191_o, x1192_o, x1193_o, x1194_o, x1195_o, x1196_o, x1197_o⟩ := y_l
          obtain ⟨e1199_o, h1198_o⟩ := hy_o
          dsimp only at e1199_o h1198_o
          subst e1199_o
          show gQ (sb_240_59 217 x1191_o x1192_o x1193_o x1194_o x1195_o x1196_o x1197_o) _
          unfold sb_240_59
          refine gQ_ite ?_ ?_
          · refine gQ_chk2 (fun ha1200_o hb1201_o => ?_)
            refine gQ_ite ?_ ?_
            · unfold fb_240_93
              exact gQ_ret ⟨rfl, h1198_o⟩
            · refine gQ_v1 (A := Fw W g) (om_212 hg_o hU_o rfl h1198_o) (fun v5 s4_l h1202_o => ?_)
              refine gQ_ite ?_ ?_
              · unfold fb_240_93
                exact gQ_ret ⟨rfl, h1202_o⟩
              · exact gQ_ret ⟨rfl, h1202_o⟩
          · refine gQ_map ?_
            refine gQ_v1 (A := Fw W g) (om_152 hg_o hU_o  h1198_o) (fun v8 s7 h1203_o => ?_)
            refine gQ_ite ?_ ?_
            · refine gQ_v1 (A := Fw W g) (om_152 hg_o hU_o  h1203_o) (fun v10 s9 h1204_o => ?_)
              exact gQ_ret ⟨rfl, h1204_o⟩
            · exact gQ_ret ⟨rfl, h1203_o⟩
        · refine gQ_map ?_
          exact gQ_ret h1188_o
      · refine gQ_map ?_
        exact gQ_ret h1188_o

theorem om_241 {W : Nat → Nat → Bool} {g s : gS} {a0 : Nat} {a1 : Int} {a2 : Int} {a3 : Int} {a4 : Int} (hg_o : RF g) (hU_o : ∀ a k, mss a k = true → W a k = true) (ea0_o : a0 = 217) (h_o : Fw W g s) : gQ (f_241 a0 a1 a2 a3 a4 s) (fun r => Fw W g r.2.2.2) := by
  subst ea0_o
  unfold f_241
  refine gQ_ite ?_ ?_
  · refine gQ_v1 (A := Fw W g) (om_158 hg_o hU_o rfl h_o) (fun v2 s1_l h1205_o => ?_)
    unfold fb_241_13
    refine gQ_ite ?_ ?_
    · refine gQ_ite ?_ ?_
      · unfold fb_241_44
        refine gQ_ite ?_ ?_
        · exact gQ_ret h1205_o
        · exact gQ_ret h1205_o
      · refine gQ_v1 (A := Fw W g) (om_156 hg_o hU_o rfl h1205_o) (fun v4_l s3_l h1206_o => ?_)
        refine gQ_v1 (A := Fw W g) (om_212 hg_o hU_o rfl h1206_o) (fun v6 s5 h1207_o => ?_)
        refine gQ_ite ?_ ?_
        · unfold fb_241_44
          refine gQ_ite ?_ ?_
          · exact gQ_ret h1207_o
          · exact gQ_ret h1207_o
        · unfold fb_241_43
          unfold fb_241_44
          refine gQ_ite ?_ ?_
          · exact gQ_ret h1207_o
          · exact gQ_ret h1207_o
    · unfold fb_241_43
      unfold fb_241_44
      refine gQ_ite ?_ ?_
      · exact gQ_ret h1205_o
      · exact gQ_ret h1205_o
  · unfold fb_241_13
    refine gQ_ite ?_ ?_
    · refine gQ_ite ?_ ?_
      · unfold fb_241_44
        refine gQ_ite ?_ ?_
        · exact gQ_ret h_o
        · exact gQ_ret h_o
      · refine gQ_v1 (A := Fw W g) (om_156 hg_o hU_o rfl h_o) (fun v4_l s3_l h1208_o => ?_)
        refine gQ_v1 (A := Fw W g) (om_212 hg_o hU_o rfl h1208_o) (fun v6 s5 h1209_o => ?_)
        refine gQ_ite ?_ ?_
        · unfold fb_241_44
          refine gQ_ite ?_ ?_
          · exact gQ_ret h1209_o
          · exact gQ_ret h1209_o
        · unfold fb_241_43
          unfold fb_241_44
          refine gQ_ite ?_ ?_
          · exact gQ_ret h1209_o
          · exact gQ_ret h1209_o
    · unfold fb_241_43
      unfold fb_241_44
      refine gQ_ite ?_ ?_
      · exact gQ_ret h_o
      · exact gQ_ret h_o

theorem om_242 {W : Nat → Nat → Bool} {g s : gS} {a0 : Nat} {a1 : Int} {a2 : Int} {a3 : Int} {a4 : Int} (hg_o : RF g) (hU_o : ∀ a k, mss a k = true → W a k = true) (ea0_o : a0 = 217) (h_o : Fw W g s) : gQ (f_242 a0 a1 a2 a3 a4 s) (fun r => Fw W g r.2.2.2) := by
  subst ea0_o
  unfold f_242
  refine gQ_ite ?_ ?_
  · exact gQ_ret h_o
  · refine gQ_ite ?_ ?_
    · refine gQ_v1 (A := Fw W g) (om_156 hg_o hU_o rfl h_o) (fun v2 s1_l h1210_o => ?_)
      refine gQ_v1 (A := Fw W g) (om_212 hg_o hU_o rfl h1210_o) (fun v4_l s3_l h1211_o => ?_)
      refine gQ_ite ?_ ?_
      · unfold fb_242_37
        exact gQ_ret h1211_o
      · refine gQ_v1 (A := Fw W g) (om_156 hg_o hU_o rfl h1211_o) (fun v7 s6_l h1212_o => ?_)
        exact gQ_ret h1212_o
    · unfold fb_242_37
      exact gQ_ret h_o

theorem om_243 {W : Nat → Nat → Bool} {g s : gS} {a0 : Nat} {a1 : Int} {a2 : Int} (hg_o : RF g) (hU_o : ∀ a k, mss a k = true → W a k = true) (ea0_o : a0 = 217) (h_o : Fw W g s) : gQ (f_243 a0 a1 a2 s) (fun r => Fw W g r.2.2.2) := by
  subst ea0_o
  unfold f_243
  refine gQ_v1 (A := Fw W g) (om_162 hg_o hU_o rfl h_o) (fun v2 s1_l h1213_o => ?_)
  refine gQ_ite ?_ ?_
  · unfold fb_243_22
    dsimp only
    refine gQ_loop (fun y_l => y_l.1 = 217 ∧ Fw W g (y_l.2.2.2.2.2)) (fun y_l hy_o => ?_) ⟨rfl, (Fw_w h1213_o rfl (hU_o 217 _ rfl))⟩
    obtain ⟨x1214_o, x1215_o, x1216_o, x1217_o, x1218_o, x1219_o⟩ := y_l
    obtain ⟨e1221_o, h1220_o⟩ := hy_o
    dsimp only at e1221_o h1220_o
    subst e1221_o
    show gQ (sb_243_30 217 x1215_o x1216_o x1217_o x1218_o x1219_o) _
    unfold sb_243_30
    dsimp only
    refine gQ_ite ?_ ?_
    · refine gQ_ite ?_ ?_
      · refine gQ_v1 (A := Fw W g) (om_241 hg_o hU_o rfl h1220_o) (fun v6 s5 h1222_o => ?_)
        refine gQ_v1 (A := Fw W g) (om_241 hg_o hU_o rfl h1222_o) (fun v8 s7 h1223_o => ?_)
        refine gQ_ite ?_ ?_
        · exact gQ_ret ⟨rfl, h1223_o⟩
        · refine gQ_v1 (A := Fw W g) (om_242 hg_o hU_o rfl h1223_o) (fun v10 s9 h1224_o => ?_)
          refine gQ_v1 (A := Fw W g) (om_242 hg_o hU_o rfl h1224_o) (fun v12 s11 h1225_o => ?_)
          refine gQ_ite ?_ ?_
          · exact gQ_ret ⟨rfl, h1225_o⟩
          · exact gQ_ret ⟨rfl, h1225_o⟩
      · refine gQ_map ?_
        exact gQ_ret h1220_o
    · refine gQ_map ?_
      exact gQ_ret h1220_o
  · refine gQ_v1 (A := Fw W g) (om_163 hg_o hU_o rfl h1213_o) (fun v15 s14 h1226_o => ?_)
    refine gQ_ite ?_ ?_
    · unfold fb_243_22
      dsimp only
      refine gQ_loop (fun y_l => y_l.1 = 217 ∧ Fw W g (y_l.2.2.2.2.2)) (fun y_l hy_o => ?_) ⟨rfl, (Fw_w h1226_o rfl (hU_o 217 _ rfl))⟩
      obtain ⟨x1227_o, x1228_o, x1229_o, x1230_o, x1231_o, x1232_o⟩ := y_l
      obtain ⟨e1234_o, h1233_o⟩ := hy_o
      dsimp only at e1234_o h1233_o
      subst e1234_o
      show gQ (sb_243_30 217 x1228_o x1229_o x1230_o x1231_o x1232_o) _
      unfold sb_243_30
      dsimp only
      refine gQ_ite ?_ ?_
      · refine gQ_ite ?_ ?_
        · refine gQ_v1 (A := Fw W g) (om_241 hg_o hU_o rfl h1233_o) (fun v6 s5 h1235_o => ?_)
          refine gQ_v1 (A := Fw W g) (om_241 hg_o hU_o rfl h1235_o) (fun v8 s7 h1236_o => ?_)
          refine gQ_ite ?_ ?_
          · exact gQ_ret ⟨rfl, h1236_o⟩
          · refine gQ_v1 (A := Fw W g) (om_242 hg_o hU_o rfl h1236_o) (fun v10 s9 h1237_o => ?_)
            refine gQ_v1 (A := Fw W g) (om_242 hg_o hU_o rfl h1237_o) (fun v12 s11 h1238_o => ?_)
            refine gQ_ite ?_ ?_
            · exact gQ_ret ⟨rfl, h1238_o⟩
            · exact gQ_ret ⟨rfl, h1238_o⟩
        · refine gQ_map ?_
          exact gQ_ret h1233_o
      · refine gQ_map ?_
        exact gQ_ret h1233_o
    · unfold fb_243_22
      dsimp only
      refine gQ_loop (fun y_l => y_l.1 = 217 ∧ Fw W g (y_l.2.2.2.2.2)) (fun y_l hy_o => ?_) ⟨rfl, (Fw_w h1226_o rfl (hU_o 217 _ rfl))⟩
      obtain ⟨x1239_o, x1240_o, x1241_o, x1242_o, x1243_o, x1244_o⟩ := y_l
      obtain ⟨e1246_o, h1245_o⟩ := hy_o
      dsimp only at e1246_o h1245_o
      subst e1246_o
      show gQ (sb_243_30 217 x1240_o x1241_o x1242_o x1243_o x1244_o) _
      unfold sb_243_30
      dsimp only
      refine gQ_ite ?_ ?_
      · refine gQ_ite ?_ ?_
        · refine gQ_v1 (A := Fw W g) (om_241 hg_o hU_o rfl h1245_o) (fun v6 s5 h1247_o => ?_)
          refine gQ_v1 (A := Fw W g) (om_241 hg_o hU_o rfl h1247_o) (fun v8 s7 h1248_o => ?_)
          refine gQ_ite ?_ ?_
          · exact gQ_ret ⟨rfl, h1248_o⟩
          · refine gQ_v1 (A := Fw W g) (om_242 hg_o hU_o rfl h1248_o) (fun v10 s9 h1249_o => ?_)
            refine gQ_v1 (A := Fw W g) (om_242 hg_o hU_o rfl h1249_o) (fun v12 s11 h1250_o => ?_)
            refine gQ_ite ?_ ?_
            · exact gQ_ret ⟨rfl, h1250_o⟩
            · exact gQ_ret ⟨rfl, h1250_o⟩
        · refine gQ_map ?_
          exact gQ_ret h1245_o
      · refine gQ_map ?_
        exact gQ_ret h1245_o

theorem om_244 {W : Nat → Nat → Bool} {g s : gS} {a0 : Nat} {a1 : Int} {a2 : Int} (hg_o : RF g) (hU_o : ∀ a k, mss a k = true → W a k = true) (ea0_o : a0 = 217) (h_o : Fw W g s) : gQ (f_244 a0 a1 a2 s) (fun r => Fw W g r.2.2.2) := by
  subst ea0_o
  unfold f_244
  refine gQ_v1 (A := Fw W g) (om_150 hg_o hU_o  h_o) (fun v2 s1_l h1251_o => ?_)
  refine gQ_ite ?_ ?_
  · unfold fb_244_24
    dsimp only
    refine gQ_ite ?_ ?_
    · exact gQ_ret (Fw_w h1251_o rfl (hU_o 217 _ rfl))
    · refine gQ_loop (fun y_l => y_l.1 = 217 ∧ Fw W g (y_l.2.2.2.2.2)) (fun y_l hy_o => ?_) ⟨rfl, (Fw_w h1251_o rfl (hU_o 217 _ rfl))⟩
      obtain ⟨x1252_o, x1253_o, x1254_o, x1255_o, x1256_o, x1257_o⟩ := y_l
      obtain ⟨e1259_o, h1258_o⟩ := hy_o
      dsimp only at e1259_o h1258_o
      subst e1259_o
      show gQ (sb_244_41 217 x1253_o x1254_o x1255_o x1256_o x1257_o) _
      unfold sb_244_41
      refine gQ_ite ?_ ?_
      · exact gQ_ret ⟨rfl, h1258_o⟩
      · refine gQ_map ?_
        refine gQ_loop (fun y_l => y_l.1 = 217 ∧ Fw W g (y_l.2.2.2.2.2.2)) (fun y_l hy_o => ?_) ⟨rfl, h1258_o⟩
        obtain ⟨x1260_o, x1261_o, x1262_o, x1263_o, x1264_o, x1265_o, x1266_o⟩ := y_l
        obtain ⟨e1268_o, h1267_o⟩ := hy_o
        dsimp only at e1268_o h1267_o
        subst e1268_o
        show gQ (sb_244_65 217 x1261_o x1262_o x1263_o x1264_o x1265_o x1266_o) _
        unfold sb_244_65
        refine gQ_ite ?_ ?_
        · refine gQ_v1 (A := Fw W g) (om_154 hg_o hU_o  h1267_o) (fun v6 s5 h1269_o => ?_)
          refine gQ_ite ?_ ?_
          · unfold fb_244_87
            refine gQ_loop (fun y_l => y_l.1 = 217 ∧ Fw W g (y_l.2.2.2.2.2.2.2.2)) (fun y_l hy_o => ?_) ⟨rfl, h1269_o⟩
            obtain ⟨x1270_o, x1271_o, x1272_o, x1273_o, x1274_o, x1275_o, x1276_o, x1277_o, x1278_o⟩ := y_l
            obtain ⟨e1280_o, h1279_o⟩ := hy_o
            dsimp only at e1280_o h1279_o
            subst e1280_o
            show gQ (sb_244_92 217 x1271_o x1272_o x1273_o x1274_o x1275_o x1276_o x1277_o x1278_o) _
            unfold sb_244_92
            dsimp only
            refine gQ_ite ?_ ?_
            · refine gQ_v1 (A := Fw W g) (om_153 hg_o hU_o  h1279_o) (fun v8 s7 h1281_o => ?_)
              refine gQ_ite ?_ ?_
              · exact gQ_ret ⟨rfl, h1281_o⟩
              · exact gQ_ret ⟨rfl, h1281_o⟩
            · refine gQ_map ?_
              exact gQ_ret ⟨rfl, h1279_o⟩
          · unfold fb_244_87
            refine gQ_loop (fun y_l => y_l.1 = 217 ∧ Fw W g (y_l.2.2.2.2.2.2.2.2)) (fun y_l hy_o => ?_) ⟨rfl, h1269_o⟩
            obtain ⟨x1282_o, x1283_o, x1284_o, x1285_o, x1286_o, x1287_o, x1288_o, x1289_o, x1290_o⟩ := y_l
            obtain ⟨e1292_o, h1291_o⟩ := hy_o
            dsimp only at e1292_o h1291_o
            subst e1292_o
            show gQ (sb_244_92 217 x1283_o x1284_o x1285_o x1286_o x1287_o x1288_o x1289_o x1290_o) _
            unfold sb_244_92
            dsimp only
            refine gQ_ite ?_ ?_
            · refine gQ_v1 (A := Fw W g) (om_153 hg_o hU_o  h1291_o) (fun v8 s7 h1293_o => ?_)
              refine gQ_ite ?_ ?_
              · exact gQ_ret ⟨rfl, h1293_o⟩
              · exact gQ_ret ⟨rfl, h1293_o⟩
            · refine gQ_map ?_
              exact gQ_ret ⟨rfl, h1291_o⟩
        · refine gQ_map ?_
          refine gQ_ite ?_ ?_
          · exact gQ_none
          · exact gQ_ret h1267_o
  · refine gQ_v1 (A := Fw W g) (om_150 hg_o hU_o  h1251_o) (fun v13 s12 h1294_o => ?_)
    refine gQ_ite ?_ ?_
    · unfold fb_244_24
      dsimp only
      refine gQ_ite ?_ ?_
      · exact gQ_ret (Fw_w h1294_o rfl (hU_o 217 _ rfl))
      · refine gQ_loop (fun y_l => y_l.1 = 217 ∧ Fw W g (y_l.2.2.2.2.2)) (fun y_l hy_o => ?_) ⟨rfl, (Fw_w h1294_o rfl (hU_o 217 _ rfl))⟩
        obtain ⟨x1295_o, x1296_o, x1297_o, x1298_o, x1299_o, x1300_o⟩ := y_l
        obtain ⟨e1302_o, h1301_o⟩ := hy_o
        dsimp only at e1302_o h1301_o
        subst e1302_o
        show gQ (sb_244_41 217 x1296_o x1297_o x1298_o x1299_o x1300_o) _
        unfold sb_244_41
        refine gQ_ite ?_ ?_
        · exact gQ_ret ⟨rfl, h1301_o⟩
        · refine gQ_map ?_
          refine gQ_loop (fun y_l => y_l.1 = 217 ∧ Fw W g (y_l.2.2.2.2.2.2)) (fun y_l hy_o => ?_) ⟨rfl, h1301_o⟩
          obtain ⟨x1303_o, x1304_o, x1305_o, x1306_o, x1307_o, x1308_o, x1309_o⟩ := y_l
          obtain ⟨e1311_o, h1310_o⟩ := hy_o
          dsimp only at e1311_o h1310_o
          subst e1311_o
          show gQ (sb_244_65 217 x1304_o x1305_o x1306_o x1307_o x1308_o x1309_o) _
          unfold sb_244_65
          refine gQ_ite ?_ ?_
          · refine gQ_v1 (A := Fw W g) (om_154 hg_o hU_o  h1310_o) (fun v6 s5 h1312_o => ?_)
            refine gQ_ite ?_ ?_
            · unfold fb_244_87
              refine gQ_loop (fun y_l => y_l.1 = 217 ∧ Fw W g (y_l.2.2.2.2.2.2.2.2)) (fun y_l hy_o => ?_) ⟨rfl, h1312_o⟩
              obtain ⟨x1313_o, x1314_o, x1315_o, x1316_o, x1317_o, x1318_o, x1319_o, x1320_o, x1321_o⟩ := y_l
              obtain ⟨e1323_o, h1322_o⟩ := hy_o
              dsimp only at e1323_o h1322_o
              subst e1323_o
              show gQ (sb_244_92 217 x1314_o x1315_o x1316_o x1317_o x1318_o x1319_o x1320_o x1321_o) _
              unfold sb_244_92
              dsimp only
              refine gQ_ite ?_ ?_
              · refine gQ_v1 (A := Fw W g) (om_153 hg_o hU_o  h1322_o) (fun v8 s7 h1324_o => ?_)
                refine gQ_ite ?_ ?_
                · exact gQ_ret ⟨rfl, h1324_o⟩
                · exact gQ_ret ⟨rfl, h1324_o⟩
              · refine gQ_map ?_
                exact gQ_ret ⟨rfl, h1322_o⟩
            · unfold fb_244_87
              refine gQ_loop (fun y_l => y_l.1 = 217 ∧ Fw W g (y_l.2.2.2.2.2.2.2.2)) (fun y_l hy_o => ?_) ⟨rfl, h1312_o⟩
              obtain ⟨x1325_o, x1326_o, x1327_o, x1328_o, x1329_o, x1330_o, x1331_o, x1332_o, x1333_o⟩ := y_l
              obtain ⟨e1335_o, h1334_o⟩ := hy_o
              dsimp only at e1335_o h1334_o
              subst e1335_o
              show gQ (sb_244_92 217 x1326_o x1327_o x1328_o x1329_o x1330_o x1331_o x1332_o x1333_o) _
              unfold sb_244_92
              dsimp only
              refine gQ_ite ?_ ?_
              · refine gQ_v1 (A := Fw W g) (om_153 hg_o hU_o  h1334_o) (fun v8 s7 h1336_o => ?_)
                refine gQ_ite ?_ ?_
                · exact gQ_ret ⟨rfl, h1336_o⟩
                · exact gQ_ret ⟨rfl, h1336_o⟩
              · refine gQ_map ?_
                exact gQ_ret ⟨rfl, h1334_o⟩
          · refine gQ_map ?_
            refine gQ_ite ?_ ?_
            · exact gQ_none
            · exact gQ_ret h1310_o
    · unfold fb_244_24
      dsimp only
      refine gQ_ite ?_ ?_
      · exact gQ_ret (Fw_w h1294_o rfl (hU_o 217 _ rfl))
      · refine gQ_loop (fun y_l => y_l.1 = 217 ∧ Fw W g (y_l.2.2.2.2.2)) (fun y_l hy_o => ?_) ⟨rfl, (Fw_w h1294_o rfl (hU_o 217 _ rfl))⟩
        obtain ⟨x1337_o, x1338_o, x1339_o, x1340_o, x1341_o, x1342_o⟩ := y_l
        obtain ⟨e1344_o, h1343_o⟩ := hy_o
        dsimp only at e1344_o h1343_o
        subst e1344_o
        show gQ (sb_244_41 217 x1338_o x1339_o x1340_o x1341_o x1342_o) _
        unfold sb_244_41
        refine gQ_ite ?_ ?_
        · exact gQ_ret ⟨rfl, h1343_o⟩
        · refine gQ_map ?_
          refine gQ_loop (fun y_l => y_l.1 = 217 ∧ Fw W g (y_l.2.2.2.2.2.2)) (fun y_l hy_o => ?_) ⟨rfl, h1343_o⟩
          obtain ⟨x1345_o, x1346_o, x1347_o, x1348_o, x1349_o, x1350_o, x1351_o⟩ := y_l
          obtain ⟨e1353_o, h1352_o⟩ := hy_o
          dsimp only at e1353_o h1352_o
          subst e1353_o
          show gQ (sb_244_65 217 x1346_o x1347_o x1348_o x1349_o x1350_o x1351_o) _
          unfold sb_244_65
          refine gQ_ite ?_ ?_
          · refine gQ_v1 (A := Fw W g) (om_154 hg_o hU_o  h1352_o) (fun v6 s5 h1354_o => ?_)
            refine gQ_ite ?_ ?_
            · unfold fb_244_87
              refine gQ_loop (fun y_l => y_l.1 = 217 ∧ Fw W g (y_l.2.2.2.2.2.2.2.2)) (fun y_l hy_o => ?_) ⟨rfl, h1354_o⟩
              obtain ⟨x1355_o, x1356_o, x1357_o, x1358_o, x1359_o, x1360_o, x1361_o, x1362_o, x1363_o⟩ := y_l
              obtain ⟨e1365_o, h1364_o⟩ := hy_o
              dsimp only at e1365_o h1364_o
              subst e1365_o
              show gQ (sb_244_92 217 x1356_o x1357_o x1358_o x1359_o x1360_o x1361_o x1362_o x1363_o) _
              unfold sb_244_92
              dsimp only
              refine gQ_ite ?_ ?_
              · refine gQ_v1 (A := Fw W g) (om_153 hg_o hU_o  h1364_o) (fun v8 s7 h1366_o => ?_)
                refine gQ_ite ?_ ?_
                · exact gQ_ret ⟨rfl, h1366_o⟩
                · exact gQ_ret ⟨rfl, h1366_o⟩
              · refine gQ_map ?_
                exact gQ_ret ⟨rfl, h1364_o⟩
            · unfold fb_244_87
              refine gQ_loop (fun y_l => y_l.1 = 217 ∧ Fw W g (y_l.2.2.2.2.2.2.2.2)) (fun y_l hy_o => ?_) ⟨rfl, h1354_o⟩
              obtain ⟨x1367_o, x1368_o, x1369_o, x1370_o, x1371_o, x1372_o, x1373_o, x1374_o, x1375_o⟩ := y_l
              obtain ⟨e1377_o, h1376_o⟩ := hy_o
              dsimp only at e1377_o h1376_o
              subst e1377_o
              show gQ (sb_244_92 217 x1368_o x1369_o x1370_o x1371_o x1372_o x1373_o x1374_o x1375_o) _
              unfold sb_244_92
              dsimp only
              refine gQ_ite ?_ ?_
              · refine gQ_v1 (A := Fw W g) (om_153 hg_o hU_o  h1376_o) (fun v8 s7 h1378_o => ?_)
                refine gQ_ite ?_ ?_
                · exact gQ_ret ⟨rfl, h1378_o⟩
                · exact gQ_ret ⟨rfl, h1378_o⟩
              · refine gQ_map ?_
                exact gQ_ret ⟨rfl, h1376_o⟩
          · refine gQ_map ?_
            refine gQ_ite ?_ ?_
            · exact gQ_none
            · exact gQ_ret h1352_o

theorem om_245 {W : Nat → Nat → Bool} {g s : gS} {a0 : Nat} {a1 : Int} (hg_o : RF g) (hU_o : ∀ a k, mss a k = true → W a k = true) (ea0_o : a0 = 217) (h_o : Fw W g s) : gQ (f_245 a0 a1 s) (fun r => Fw W g r.2.2.2) := by
  subst ea0_o
  unfold f_245
  dsimp only
  refine gQ_loop (fun y_l => y_l.1 = 217 ∧ Fw W g (y_l.2.2.2.2)) (fun y_l hy_o => ?_) ⟨rfl, (Fw_w h_o rfl (hU_o 217 _ rfl))⟩
  obtain ⟨x1379_o, x1380_o, x1381_o, x1382_o, x1383_o⟩ := y_l
  obtain ⟨e1385_o, h1384_o⟩ := hy_o
  dsimp only at e1385_o h1384_o
  subst e1385_o
  show gQ (sb_245_9 217 x1380_o x1381_o x1382_o x1383_o) _
  unfold sb_245_9
  refine gQ_ite ?_ ?_
  · refine gQ_ite ?_ ?_
    · unfold fb_245_40
      exact gQ_ret ⟨rfl, h1384_o⟩
    · refine gQ_v1 (A := Fw W g) (om_160 hg_o hU_o rfl h1384_o) (fun v3 s2_l h1386_o => ?_)
      refine gQ_v1 (A := Fw W g) (om_160 hg_o hU_o rfl h1386_o) (fun v5 s4_l h1387_o => ?_)
      refine gQ_ite ?_ ?_
      · unfold fb_245_40
        exact gQ_ret ⟨rfl, h1387_o⟩
      · exact gQ_ret ⟨rfl, h1387_o⟩
  · refine gQ_map ?_
    refine gQ_ite ?_ ?_
    · exact gQ_ret h1384_o
    · refine gQ_loop (fun y_l => y_l.1 = 217 ∧ Fw W g (y_l.2.2.2.2)) (fun y_l hy_o => ?_) ⟨rfl, h1384_o⟩
      obtain ⟨x1388_o, x1389_o, x1390_o, x1391_o, x1392_o⟩ := y_l
      obtain ⟨e1394_o, h1393_o⟩ := hy_o
      dsimp only at e1394_o h1393_o
      subst e1394_o
      show gQ (sb_245_59 217 x1389_o x1390_o x1391_o x1392_o) _
      unfold sb_245_59
      refine gQ_ite ?_ ?_
      · refine gQ_ite ?_ ?_
        · exact gQ_ret ⟨rfl, h1393_o⟩
        · refine gQ_v1 (A := Fw W g) (om_160 hg_o hU_o rfl h1393_o) (fun v7 s6_l h1395_o => ?_)
          refine gQ_v1 (A := Fw W g) (om_152 hg_o hU_o  h1395_o) (fun v9 s8 h1396_o => ?_)
          exact gQ_ret ⟨rfl, h1396_o⟩
      · refine gQ_map ?_
        exact gQ_ret h1393_o

theorem om_246 {W : Nat → Nat → Bool} {g s : gS} {a0 : Nat} {a1 : Int} {a2 : Int} {a3 : Int} (hg_o : RF g) (hU_o : ∀ a k, mss a k = true → W a k = true) (ea0_o : a0 = 217) (h_o : Fw W g s) : gQ (f_246 a0 a1 a2 a3 s) (fun r => Fw W g r.2.2.2) := by
  subst ea0_o
  unfold f_246
  refine gQ_ite ?_ ?_
  · refine gQ_chk2 (fun ha1397_o hb1398_o => ?_)
    exact gQ_ret h_o
  · refine gQ_v1 (A := Fw W g) (om_160 hg_o hU_o rfl h_o) (fun v2 s1_l h1399_o => ?_)
    refine gQ_v1 (A := Fw W g) (om_156 hg_o hU_o rfl h1399_o) (fun v4_l s3_l h1400_o => ?_)
    refine gQ_v1 (A := Fw W g) (om_151 hg_o hU_o  h1400_o) (fun v6 s5 h1401_o => ?_)
    refine gQ_chk2 (fun ha1402_o hb1403_o => ?_)
    exact gQ_ret h1401_o

theorem om_252 {W : Nat → Nat → Bool} {g s : gS} {a0 : Nat} {a1 : Int} (hg_o : RF g) (hU_o : ∀ a k, mss a k = true → W a k = true) (ea0_o : a0 = 217) (h_o : Fw W g s) : gQ (f_252 a0 a1 s) (fun r => Fw W g r.2.2.2) := by
  subst ea0_o
  unfold f_252
  refine gQ_loop (fun y_l => y_l.1 = 217 ∧ Fw W g (y_l.2.2.2.2)) (fun y_l hy_o => ?_) ⟨rfl, h_o⟩
  obtain ⟨x1404_o, x1405_o, x1406_o, x1407_o, x1408_o⟩ := y_l
  obtain ⟨e1410_o, h1409_o⟩ := hy_o
  dsimp only at e1410_o h1409_o
  subst e1410_o
  show gQ (sb_252_4 217 x1405_o x1406_o x1407_o x1408_o) _
  unfold sb_252_4
  dsimp only
  refine gQ_ite ?_ ?_
  · refine gQ_v1 (A := Fw W g) (om_156 hg_o hU_o rfl h1409_o) (fun v2 s1_l h1411_o => ?_)
    refine gQ_ite ?_ ?_
    · exact gQ_ret ⟨rfl, h1411_o⟩
    · exact gQ_ret ⟨rfl, h1411_o⟩
  · refine gQ_map ?_
    exact gQ_ret h1409_o

theorem om_247 {W : Nat → Nat → Bool} {g s : gS} {a0 : Nat} {a1 : Int} (hg_o : RF g) (hU_o : ∀ a k, mss a k = true → W a k = true) (ea0_o : a0 = 217) (h_o : Fw W g s) : gQ (f_247 a0 a1 s) (fun r => Fw W g r.2.2.2) := by
  subst ea0_o
  unfold f_247
  refine gQ_ite ?_ ?_
  · unfold fb_247_18
    unfold fb_247_19
    dsimp only
    refine gQ_ite ?_ ?_
    · exact gQ_ret (Fw_w h_o rfl (hU_o 217 _ rfl))
    · refine gQ_loop (fun y_l => y_l.1 = 217 ∧ Fw W g (y_l.2.2.2.2)) (fun y_l hy_o => ?_) ⟨rfl, (Fw_w h_o rfl (hU_o 217 _ rfl))⟩
      obtain ⟨x1412_o, x1413_o, x1414_o, x1415_o, x1416_o⟩ := y_l
      obtain ⟨e1418_o, h1417_o⟩ := hy_o
      dsimp only at e1418_o h1417_o
      subst e1418_o
      show gQ (sb_247_41 217 x1413_o x1414_o x1415_o x1416_o) _
      unfold sb_247_41
      refine gQ_ite ?_ ?_
      · refine gQ_map ?_
        refine gQ_v1 (A := Fw W g) (om_252 hg_o hU_o rfl h1417_o) (fun v4_l s3_l h1419_o => ?_)
        refine gQ_ite ?_ ?_
        · refine gQ_chk2 (fun ha1420_o hb1421_o => ?_)
          exact gQ_ret h1419_o
        · refine gQ_loop (fun y_l => y_l.1 = 217 ∧ Fw W g (y_l.2.2.2.2.2)) (fun y_l hy_o => ?_) ⟨rfl, h1419_o⟩
          obtain ⟨x1422_o, x1423_o, x1424_o, x1425_o, x1426_o, x1427_o⟩ := y_l
          obtain ⟨e1429_o, h1428_o⟩ := hy_o
          dsimp only at e1429_o h1428_o
          subst e1429_o
          show gQ (sb_247_175 217 x1423_o x1424_o x1425_o x1426_o x1427_o) _
          unfold sb_247_175
          refine gQ_ite ?_ ?_
          · refine gQ_map ?_
            exact gQ_ret h1428_o
          · refine gQ_loop (fun y_l => y_l.1 = 217 ∧ Fw W g (y_l.2.2.2.2.2)) (fun y_l hy_o => ?_) ⟨rfl, h1428_o⟩
            obtain ⟨x1430_o, x1431_o, x1432_o, x1433_o, x1434_o, x1435_o⟩ := y_l
            obtain ⟨e1437_o, h1436_o⟩ := hy_o
            dsimp only at e1437_o h1436_o
            subst e1437_o
            show gQ (sb_247_184 217 x1431_o x1432_o x1433_o x1434_o x1435_o) _
            unfold sb_247_184
            refine gQ_ite ?_ ?_
            · unfold fb_247_199
              dsimp only
              refine gQ_v1 (A := Fw W g) (om_246 hg_o hU_o rfl h1436_o) (fun v6 s5 h1438_o => ?_)
              refine gQ_chk2 (fun ha1439_o hb1440_o => ?_)
              refine gQ_ite ?_ ?_
              · refine gQ_map ?_
                refine gQ_ite ?_ ?_
                · exact gQ_ret ⟨rfl, h1438_o⟩
                · exact gQ_ret ⟨rfl, h1438_o⟩
              · exact gQ_ret ⟨rfl, h1438_o⟩
            · refine gQ_v1 (A := Fw W g) (om_153 hg_o hU_o  h1436_o) (fun v9 s8 h1441_o => ?_)
              refine gQ_ite ?_ ?_
              · exact gQ_ret ⟨rfl, h1441_o⟩
              · unfold fb_247_199
                dsimp only
                refine gQ_v1 (A := Fw W g) (om_246 hg_o hU_o rfl h1441_o) (fun v6 s5 h1442_o => ?_)
                refine gQ_chk2 (fun ha1443_o hb1444_o => ?_)
                refine gQ_ite ?_ ?_
                · refine gQ_map ?_
                  refine gQ_ite ?_ ?_
                  · exact gQ_ret ⟨rfl, h1442_o⟩
                  · exact gQ_ret ⟨rfl, h1442_o⟩
                · exact gQ_ret ⟨rfl, h1442_o⟩
      · refine gQ_loop (fun y_l => y_l.1 = 217 ∧ Fw W g (y_l.2.2.2.2.2)) (fun y_l hy_o => ?_) ⟨rfl, h1417_o⟩
        obtain ⟨x1445_o, x1446_o, x1447_o, x1448_o, x1449_o, x1450_o⟩ := y_l
        obtain ⟨e1452_o, h1451_o⟩ := hy_o
        dsimp only at e1452_o h1451_o
        subst e1452_o
        show gQ (sb_247_48 217 x1446_o x1447_o x1448_o x1449_o x1450_o) _
        unfold sb_247_48
        refine gQ_ite ?_ ?_
        · refine gQ_ite ?_ ?_
          · unfold fb_247_72
            refine gQ_loop (fun y_l => y_l.1 = 217 ∧ Fw W g (y_l.2.2.2.2.2.2.2)) (fun y_l hy_o => ?_) ⟨rfl, h1451_o⟩
            obtain ⟨x1453_o, x1454_o, x1455_o, x1456_o, x1457_o, x1458_o, x1459_o, x1460_o⟩ := y_l
            obtain ⟨e1462_o, h1461_o⟩ := hy_o
            dsimp only at e1462_o h1461_o
            subst e1462_o
            show gQ (sb_247_77 217 x1454_o x1455_o x1456_o x1457_o x1458_o x1459_o x1460_o) _
            unfold sb_247_77
            refine gQ_ite ?_ ?_
            · refine gQ_ite ?_ ?_
              · refine gQ_v1 (A := Fw W g) (om_153 hg_o hU_o  h1461_o) (fun v12 s11 h1463_o => ?_)
                refine gQ_ite ?_ ?_
                · exact gQ_ret ⟨rfl, h1463_o⟩
                · refine gQ_v1 (A := Fw W g) (om_246 hg_o hU_o rfl h1463_o) (fun v15 s14 h1464_o => ?_)
                  refine gQ_v1 (A := Fw W g) (om_152 hg_o hU_o  h1464_o) (fun v17 s16 h1465_o => ?_)
                  exact gQ_ret ⟨rfl, h1465_o⟩
              · refine gQ_map ?_
                unfold fb_247_125
                dsimp only
                refine gQ_chk2 (fun ha1466_o hb1467_o => ?_)
                exact gQ_ret ⟨rfl, (Fw_w h1461_o (fr_r h1461_o rfl (rr_217_24 hg_o)) (hU_o 230 _ rfl))⟩
            · refine gQ_map ?_
              unfold fb_247_125
              dsimp only
              refine gQ_chk2 (fun ha1468_o hb1469_o => ?_)
              exact gQ_ret ⟨rfl, (Fw_w h1461_o (fr_r h1461_o rfl (rr_217_24 hg_o)) (hU_o 230 _ rfl))⟩
          · refine gQ_v1 (A := Fw W g) (om_246 hg_o hU_o rfl h1451_o) (fun v20 s19 h1470_o => ?_)
            unfold fb_247_72
            refine gQ_loop (fun y_l => y_l.1 = 217 ∧ Fw W g (y_l.2.2.2.2.2.2.2)) (fun y_l hy_o => ?_) ⟨rfl, h1470_o⟩
            obtain ⟨x1471_o, x1472_o, x1473_o, x1474_o, x1475_o, x1476_o, x1477_o, x1478_o⟩ := y_l
            obtain ⟨e1480_o, h1479_o⟩ := hy_o
            dsimp only at e1480_o h1479_o
            subst e1480_o
            show gQ (sb_247_77 217 x1472_o x1473_o x1474_o x1475_o x1476_o x1477_o x1478_o) _
            unfold sb_247_77
            refine gQ_ite ?_ ?_
            · refine gQ_ite ?_ ?_
              · refine gQ_v1 (A := Fw W g) (om_153 hg_o hU_o  h1479_o) (fun v12 s11 h1481_o => ?_)
                refine gQ_ite ?_ ?_
                · exact gQ_ret ⟨rfl, h1481_o⟩
                · refine gQ_v1 (A := Fw W g) (om_246 hg_o hU_o rfl h1481_o) (fun v15 s14 h1482_o => ?_)
                  refine gQ_v1 (A := Fw W g) (om_152 hg_o hU_o  h1482_o) (fun v17 s16 h1483_o => ?_)
                  exact gQ_ret ⟨rfl, h1483_o⟩
              · refine gQ_map ?_
                unfold fb_247_125
                dsimp only
                refine gQ_chk2 (fun ha1484_o hb1485_o => ?_)
                exact gQ_ret ⟨rfl, (Fw_w h1479_o (fr_r h1479_o rfl (rr_217_24 hg_o)) (hU_o 230 _ rfl))⟩
            · refine gQ_map ?_
              unfold fb_247_125
              dsimp only
              refine gQ_chk2 (fun ha1486_o hb1487_o => ?_)
              exact gQ_ret ⟨rfl, (Fw_w h1479_o (fr_r h1479_o rfl (rr_217_24 hg_o)) (hU_o 230 _ rfl))⟩
        · refine gQ_map ?_
          exact gQ_ret ⟨rfl, h1451_o⟩
  · refine gQ_v1 (A := Fw W g) (om_164 hg_o hU_o rfl h_o) (fun v22 s21 h1488_o => ?_)
    refine gQ_ite ?_ ?_
    · unfold fb_247_19
      dsimp only
      refine gQ_ite ?_ ?_
      · exact gQ_ret (Fw_w h1488_o rfl (hU_o 217 _ rfl))
      · refine gQ_loop (fun y_l => y_l.1 = 217 ∧ Fw W g (y_l.2.2.2.2)) (fun y_l hy_o => ?_) ⟨rfl, (Fw_w h1488_o rfl (hU_o 217 _ rfl))⟩
        obtain ⟨x1489_o, x1490_o, x1491_o, x1492_o, x1493_o⟩ := y_l
        obtain ⟨e1495_o, h1494_o⟩ := hy_o
        dsimp only at e1495_o h1494_o
        subst e1495_o
        show gQ (sb_247_41 217 x1490_o x1491_o x1492_o x1493_o) _
        unfold sb_247_41
        refine gQ_ite ?_ ?_
        · refine gQ_map ?_
          refine gQ_v1 (A := Fw W g) (om_252 hg_o hU_o rfl h1494_o) (fun v4_l s3_l h1496_o => ?_)
          refine gQ_ite ?_ ?_
          · refine gQ_chk2 (fun ha1497_o hb1498_o => ?_)
            exact gQ_ret h1496_o
          · refine gQ_loop (fun y_l => y_l.1 = 217 ∧ Fw W g (y_l.2.2.2.2.2)) (fun y_l hy_o => ?_) ⟨rfl, h1496_o⟩
            obtain ⟨x1499_o, x1500_o, x1501_o, x1502_o, x1503_o, x1504_o⟩ := y_l
            obtain ⟨e1506_o, h1505_o⟩ := hy_o
            dsimp only at e1506_o h1505_o
            subst e1506_o
            show gQ (sb_247_175 217 x1500_o x1501_o x1502_o x1503_o x1504_o) _
            unfold sb_247_175
            refine gQ_ite ?_ ?_
            · refine gQ_map ?_
              exact gQ_ret h1505_o
            · refine gQ_loop (fun y_l => y_l.1 = 217 ∧ Fw W g (y_l.2.2.2.2.2)) (fun y_l hy_o => ?_) ⟨rfl, h1505_o⟩
              obtain ⟨x1507_o, x1508_o, x1509_o, x1510_o, x1511_o, x1512_o⟩ := y_l
              obtain ⟨e1514_o, h1513_o⟩ := hy_o
              dsimp only at e1514_o h1513_o
              subst e1514_o
              show gQ (sb_247_184 217 x1508_o x1509_o x1510_o x1511_o x1512_o) _
              unfold sb_247_184
              refine gQ_ite ?_ ?_
              · unfold fb_247_199
                dsimp only
                refine gQ_v1 (A := Fw W g) (om_246 hg_o hU_o rfl h1513_o) (fun v6 s5 h1515_o => ?_)
                refine gQ_chk2 (fun ha1516_o hb1517_o => ?_)
                refine gQ_ite ?_ ?_
                · refine gQ_map ?_
                  refine gQ_ite ?_ ?_
                  · exact gQ_ret ⟨rfl, h1515_o⟩
                  · exact gQ_ret ⟨rfl, h1515_o⟩
                · exact gQ_ret ⟨rfl, h1515_o⟩
              · refine gQ_v1 (A := Fw W g) (om_153 hg_o hU_o  h1513_o) (fun v9 s8 h1518_o => ?_)
                refine gQ_ite ?_ ?_
                · exact gQ_ret ⟨rfl, h1518_o⟩
                · unfold fb_247_199
                  dsimp only
                  refine gQ_v1 (A := Fw W g) (om_246 hg_o hU_o rfl h1518_o) (fun v6 s5 h1519_o => ?_)
                  refine gQ_chk2 (fun ha1520_o hb1521_o => ?_)
                  refine gQ_ite ?_ ?_
                  · refine gQ_map ?_
                    refine gQ_ite ?_ ?_
                    · exact gQ_ret ⟨rfl, h1519_o⟩
                    · exact gQ_ret ⟨rfl, h1519_o⟩
                  · exact gQ_ret ⟨rfl, h1519_o⟩
        · refine gQ_loop (fun y_l => y_l.1 = 217 ∧ Fw W g (y_l.2.2.2.2.2)) (fun y_l hy_o => ?_) ⟨rfl, h1494_o⟩
          obtain ⟨x1522_o, x1523_o, x1524_o, x1525_o, x1526_o, x1527_o⟩ := y_l
          obtain ⟨e1529_o, h1528_o⟩ := hy_o
          dsimp only at e1529_o h1528_o
          subst e1529_o
          show gQ (sb_247_48 217 x1523_o x1524_o x1525_o x1526_o x1527_o) _
          unfold sb_247_48
          refine gQ_ite ?_ ?_
          · refine gQ_ite ?_ ?_
            · unfold fb_247_72
              refine gQ_loop (fun y_l => y_l.1 = 217 ∧ Fw W g (y_l.2.2.2.2.2.2.2)) (fun y_l hy_o => ?_) ⟨rfl, h1528_o⟩
              obtain ⟨x1530_o, x1531_o, x1532_o, x1533_o, x1534_o, x1535_o, x1536_o, x1537_o⟩ := y_l
              obtain ⟨e1539_o, h1538_o⟩ := hy_o
              dsimp only at e1539_o h1538_o
              subst e1539_o
              show gQ (sb_247_77 217 x1531_o x1532_o x1533_o x1534_o x1535_o x1536_o x1537_o) _
              unfold sb_247_77
              refine gQ_ite ?_ ?_
              · refine gQ_ite ?_ ?_
                · refine gQ_v1 (A := Fw W g) (om_153 hg_o hU_o  h1538_o) (fun v12 s11 h1540_o => ?_)
                  refine gQ_ite ?_ ?_
                  · exact gQ_ret ⟨rfl, h1540_o⟩
                  · refine gQ_v1 (A := Fw W g) (om_246 hg_o hU_o rfl h1540_o) (fun v15 s14 h1541_o => ?_)
                    refine gQ_v1 (A := Fw W g) (om_152 hg_o hU_o  h1541_o) (fun v17 s16 h1542_o => ?_)
                    exact gQ_ret ⟨rfl, h1542_o⟩
                · refine gQ_map ?_
                  unfold fb_247_125
                  dsimp only
                  refine gQ_chk2 (fun ha1543_o hb1544_o => ?_)
                  exact gQ_ret ⟨rfl, (Fw_w h1538_o (fr_r h1538_o rfl (rr_217_24 hg_o)) (hU_o 230 _ rfl))⟩
              · refine gQ_map ?_
                unfold fb_247_125
                dsimp only
                refine gQ_chk2 (fun ha1545_o hb1546_o => ?_)
                exact gQ_ret ⟨rfl, (Fw_w h1538_o (fr_r h1538_o rfl (rr_217_24 hg_o)) (hU_o 230 _ rfl))⟩
            · refine gQ_v1 (A := Fw W g) (om_246 hg_o hU_o rfl h1528_o) (fun v20 s19 h1547_o => ?_)
              unfold fb_247_72
              refine gQ_loop (fun y_l => y_l.1 = 217 ∧ Fw W g (y_l.2.2.2.2.2.2.2)) (fun y_l hy_o => ?_) ⟨rfl, h1547_o⟩
              obtain ⟨x1548_o, x1549_o, x1550_o, x1551_o, x1552_o, x1553_o, x1554_o, x1555_o⟩ := y_l
              obtain ⟨e1557_o, h1556_o⟩ := hy_o
              dsimp only at e1557_o h1556_o
              subst e1557_o
              show gQ (sb_247_77 217 x1549_o x1550_o x1551_o x1552_o x1553_o x1554_o x1555_o) _
              unfold sb_247_77
              refine gQ_ite ?_ ?_
              · refine gQ_ite ?_ ?_
                · refine gQ_v1 (A := Fw W g) (om_153 hg_o hU_o  h1556_o) (fun v12 s11 h1558_o => ?_)
                  refine gQ_ite ?_ ?_
                  · exact gQ_ret ⟨rfl, h1558_o⟩
                  · refine gQ_v1 (A := Fw W g) (om_246 hg_o hU_o rfl h1558_o) (fun v15 s14 h1559_o => ?_)
                    refine gQ_v1 (A := Fw W g) (om_152 hg_o hU_o  h1559_o) (fun v17 s16 h1560_o => ?_)
                    exact gQ_ret ⟨rfl, h1560_o⟩
                · refine gQ_map ?_
                  unfold fb_247_125
                  dsimp only
                  refine gQ_chk2 (fun ha1561_o hb1562_o => ?_)
                  exact gQ_ret ⟨rfl, (Fw_w h1556_o (fr_r h1556_o rfl (rr_217_24 hg_o)) (hU_o 230 _ rfl))⟩
              · refine gQ_map ?_
                unfold fb_247_125
                dsimp only
                refine gQ_chk2 (fun ha1563_o hb1564_o => ?_)
                exact gQ_ret ⟨rfl, (Fw_w h1556_o (fr_r h1556_o rfl (rr_217_24 hg_o)) (hU_o 230 _ rfl))⟩
          · refine gQ_map ?_
            exact gQ_ret ⟨rfl, h1528_o⟩
    · unfold fb_247_18
      unfold fb_247_19
      dsimp only
      refine gQ_ite ?_ ?_
      · exact gQ_ret (Fw_w h1488_o rfl (hU_o 217 _ rfl))
      · refine gQ_loop (fun y_l => y_l.1 = 217 ∧ Fw W g (y_l.2.2.2.2)) (fun y_l hy_o => ?_) ⟨rfl, (Fw_w h1488_o rfl (hU_o 217 _ rfl))⟩
        obtain ⟨x1565_o, x1566_o, x1567_o, x1568_o, x1569_o⟩ := y_l
        obtain ⟨e1571_o, h1570_o⟩ := hy_o
        dsimp only at e1571_o h1570_o
        subst e1571_o
        show gQ (sb_247_41 217 x1566_o x1567_o x1568_o x1569_o) _
        unfold sb_247_41
        refine gQ_ite ?_ ?_
        · refine gQ_map ?_
          refine gQ_v1 (A := Fw W g) (om_252 hg_o hU_o rfl h1570_o) (fun v4_l s3_l h1572_o => ?_)
          refine gQ_ite ?_ ?_
          · refine gQ_chk2 (fun ha1573_o hb1574_o => ?_)
            exact gQ_ret h1572_o
          · refine gQ_loop (fun y_l => y_l.1 = 217 ∧ Fw W g (y_l.2.2.2.2.2)) (fun y_l hy_o => ?_) ⟨rfl, h1572_o⟩
            obtain ⟨x1575_o, x1576_o, x1577_o, x1578_o, x1579_o, x1580_o⟩ := y_l
            obtain ⟨e1582_o, h1581_o⟩ := hy_o
            dsimp only at e1582_o h1581_o
            subst e1582_o
            show gQ (sb_247_175 217 x1576_o x1577_o x1578_o x1579_o x1580_o) _
            unfold sb_247_175
            refine gQ_ite ?_ ?_
            · refine gQ_map ?_
              exact gQ_ret h1581_o
            · refine gQ_loop (fun y_l => y_l.1 = 217 ∧ Fw W g (y_l.2.2.2.2.2)) (fun y_l hy_o => ?_) ⟨rfl, h1581_o⟩
              obtain ⟨x1583_o, x1584_o, x1585_o, x1586_o, x1587_o, x1588_o⟩ := y_l
              obtain ⟨e1590_o, h1589_o⟩ := hy_o
              dsimp only at e1590_o h1589_o
              subst e1590_o
              show gQ (sb_247_184 217 x1584_o x1585_o x1586_o x1587_o x1588_o) _
              unfold sb_247_184
              refine gQ_ite ?_ ?_
              · unfold fb_247_199
                dsimp only
                refine gQ_v1 (A := Fw W g) (om_246 hg_o hU_o rfl h1589_o) (fun v6 s5 h1591_o => ?_)
                refine gQ_chk2 (fun ha1592_o hb1593_o => ?_)
                refine gQ_ite ?_ ?_
                · refine gQ_map ?_
                  refine gQ_ite ?_ ?_
                  · exact gQ_ret ⟨rfl, h1591_o⟩
                  · exact gQ_ret ⟨rfl, h1591_o⟩
                · exact gQ_ret ⟨rfl, h1591_o⟩
              · refine gQ_v1 (A := Fw W g) (om_153 hg_o hU_o  h1589_o) (fun v9 s8 h1594_o => ?_)
                refine gQ_ite ?_ ?_
                · exact gQ_ret ⟨rfl, h1594_o⟩
                · unfold fb_247_199
                  dsimp only
                  refine gQ_v1 (A := Fw W g) (om_246 hg_o hU_o rfl h1594_o) (fun v6 s5 h1595_o => ?_)
                  refine gQ_chk2 (fun ha1596_o hb1597_o => ?_)
                  refine gQ_ite ?_ ?_
                  · refine gQ_map ?_
                    refine gQ_ite ?_ ?_
                    · exact gQ_ret ⟨rfl, h1595_o⟩
                    · exact gQ_ret ⟨rfl, h1595_o⟩
                  · exact gQ_ret ⟨rfl, h1595_o⟩
        · refine gQ_loop (fun y_l => y_l.1 = 217 ∧ Fw W g (y_l.2.2.2.2.2)) (fun y_l hy_o => ?_) ⟨rfl, h1570_o⟩
          obtain ⟨x1598_o, x1599_o, x1600_o, x1601_o, x1602_o, x1603_o⟩ := y_l
          obtain ⟨e1605_o, h1604_o⟩ := hy_o
          dsimp only at e1605_o h1604_o
          subst e1605_o
          show gQ (sb_247_48 217 x1599_o x1600_o x1601_o x1602_o x1603_o) _
          unfold sb_247_48
          refine gQ_ite ?_ ?_
          · refine gQ_ite ?_ ?_
            · unfold fb_247_72
              refine gQ_loop (fun y_l => y_l.1 = 217 ∧ Fw W g (y_l.2.2.2.2.2.2.2)) (fun y_l hy_o => ?_) ⟨rfl, h1604_o⟩
              obtain ⟨x1606_o, x1607_o, x1608_o, x1609_o, x1610_o, x1611_o, x1612_o, x1613_o⟩ := y_l
              obtain ⟨e1615_o, h1614_o⟩ := hy_o
              dsimp only at e1615_o h1614_o
              subst e1615_o
              show gQ (sb_247_77 217 x1607_o x1608_o x1609_o x1610_o x1611_o x1612_o x1613_o) _
              unfold sb_247_77
              refine gQ_ite ?_ ?_
              · refine gQ_ite ?_ ?_
                · refine gQ_v1 (A := Fw W g) (om_153 hg_o hU_o  h1614_o) (fun v12 s11 h1616_o => ?_)
                  refine gQ_ite ?_ ?_
                  · exact gQ_ret ⟨rfl, h1616_o⟩
                  · refine gQ_v1 (A := Fw W g) (om_246 hg_o hU_o rfl h1616_o) (fun v15 s14 h1617_o => ?_)
                    refine gQ_v1 (A := Fw W g) (om_152 hg_o hU_o  h1617_o) (fun v17 s16 h1618_o => ?_)
                    exact gQ_ret ⟨rfl, h1618_o⟩
                · refine gQ_map ?_
                  unfold fb_247_125
                  dsimp only
                  refine gQ_chk2 (fun ha1619_o hb1620_o => ?_)
                  exact gQ_ret ⟨rfl, (Fw_w h1614_o (fr_r h1614_o rfl (rr_217_24 hg_o)) (hU_o 230 _ rfl))⟩
              · refine gQ_map ?_
                unfold fb_247_125
                dsimp only
                refine gQ_chk2 (fun ha1621_o hb1622_o => ?_)
                exact gQ_ret ⟨rfl, (Fw_w h1614_o (fr_r h1614_o rfl (rr_217_24 hg_o)) (hU_o 230 _ rfl))⟩
            · refine gQ_v1 (A := Fw W g) (om_246 hg_o hU_o rfl h1604_o) (fun v20 s19 h1623_o => ?_)
              unfold fb_247_72
              refine gQ_loop (fun y_l => y_l.1 = 217 ∧ Fw W g (y_l.2.2.2.2.2.2.2)) (fun y_l hy_o => ?_) ⟨rfl, h1623_o⟩
              obtain ⟨x1624_o, x1625_o, x1626_o, x1627_o, x1628_o, x1629_o, x1630_o, x1631_o⟩ := y_l
              obtain ⟨e1633_o, h1632_o⟩ := hy_o
              dsimp only at e1633_o h1632_o
              subst e1633_o
              show gQ (sb_247_77 217 x1625_o x1626_o x1627_o x1628_o x1629_o x1630_o x1631_o) _
              unfold sb_247_77
              refine gQ_ite ?_ ?_
              · refine gQ_ite ?_ ?_
                · refine gQ_v1 (A := Fw W g) (om_153 hg_o hU_o  h1632_o) (fun v12 s11 h1634_o => ?_)
                  refine gQ_ite ?_ ?_
                  · exact gQ_ret ⟨rfl, h1634_o⟩
                  · refine gQ_v1 (A := Fw W g) (om_246 hg_o hU_o rfl h1634_o) (fun v15 s14 h1635_o => ?_)
                    refine gQ_v1 (A := Fw W g) (om_152 hg_o hU_o  h1635_o) (fun v17 s16 h1636_o => ?_)
                    exact gQ_ret ⟨rfl, h1636_o⟩
                · refine gQ_map ?_
                  unfold fb_247_125
                  dsimp only
                  refine gQ_chk2 (fun ha1637_o hb1638_o => ?_)
                  exact gQ_ret ⟨rfl, (Fw_w h1632_o (fr_r h1632_o rfl (rr_217_24 hg_o)) (hU_o 230 _ rfl))⟩
              · refine gQ_map ?_
                unfold fb_247_125
                dsimp only
                refine gQ_chk2 (fun ha1639_o hb1640_o => ?_)
                exact gQ_ret ⟨rfl, (Fw_w h1632_o (fr_r h1632_o rfl (rr_217_24 hg_o)) (hU_o 230 _ rfl))⟩
          · refine gQ_map ?_
            exact gQ_ret ⟨rfl, h1604_o⟩

theorem om_248 {W : Nat → Nat → Bool} {g s : gS} {a0 : Nat} (hg_o : RF g) (hU_o : ∀ a k, mss a k = true → W a k = true) (ea0_o : a0 = 217) (h_o : Fw W g s) : gQ (f_248 a0 s) (fun r => Fw W g r.2.2.2) := by
  subst ea0_o
  unfold f_248
  dsimp only
  refine gQ_loop (fun y_l => y_l.1 = 217 ∧ Fw W g (y_l.2.2.2.2)) (fun y_l hy_o => ?_) ⟨rfl, (Fw_w h_o rfl (hU_o 217 _ rfl))⟩
  obtain ⟨x1641_o, x1642_o, x1643_o, x1644_o, x1645_o⟩ := y_l
  obtain ⟨e1647_o, h1646_o⟩ := hy_o
  dsimp only at e1647_o h1646_o
  subst e1647_o
  show gQ (sb_248_20 217 x1642_o x1643_o x1644_o x1645_o) _
  unfold sb_248_20
  refine gQ_ite ?_ ?_
  · refine gQ_loop (fun y_l => y_l.1 = 217 ∧ Fw W g (y_l.2.2.2.2.2.2)) (fun y_l hy_o => ?_) ⟨rfl, h1646_o⟩
    obtain ⟨x1648_o, x1649_o, x1650_o, x1651_o, x1652_o, x1653_o, x1654_o⟩ := y_l
    obtain ⟨e1656_o, h1655_o⟩ := hy_o
    dsimp only at e1656_o h1655_o
    subst e1656_o
    show gQ (sb_248_39 217 x1649_o x1650_o x1651_o x1652_o x1653_o x1654_o) _
    unfold sb_248_39
    refine gQ_ite ?_ ?_
    · refine gQ_v1 (A := Fw W g) (om_153 hg_o hU_o  h1655_o) (fun v4_l s3_l h1657_o => ?_)
      refine gQ_ite ?_ ?_
      · exact gQ_ret ⟨rfl, h1657_o⟩
      · refine gQ_v1 (A := Fw W g) (om_160 hg_o hU_o rfl h1657_o) (fun v7 s6_l h1658_o => ?_)
        exact gQ_ret ⟨rfl, h1658_o⟩
    · refine gQ_map ?_
      refine gQ_ite ?_ ?_
      · refine gQ_ite ?_ ?_
        · unfold fb_248_107
          exact gQ_ret ⟨rfl, h1655_o⟩
        · refine gQ_v1 (A := Fw W g) (om_154 hg_o hU_o  h1655_o) (fun v9 s8 h1659_o => ?_)
          refine gQ_v1 (A := Fw W g) (om_154 hg_o hU_o  h1659_o) (fun v11 s10 h1660_o => ?_)
          refine gQ_ite ?_ ?_
          · unfold fb_248_107
            exact gQ_ret ⟨rfl, h1660_o⟩
          · exact gQ_ret ⟨rfl, h1660_o⟩
      · exact gQ_ret ⟨rfl, h1655_o⟩
  · refine gQ_map ?_
    exact gQ_ret h1646_o

theorem om_249 {W : Nat → Nat → Bool} {g s : gS} {a0 : Nat} (hg_o : RF g) (hU_o : ∀ a k, mss a k = true → W a k = true) (ea0_o : a0 = 217) (h_o : Fw W g s) : gQ (f_249 a0 s) (fun r => Fw W g r.2.2.2) := by
  subst ea0_o
  unfold f_249
  dsimp only
  refine gQ_loop (fun y_l => y_l.1 = 217 ∧ Fw W g (y_l.2.2.2)) (fun y_l hy_o => ?_) ⟨rfl, (Fw_w h_o rfl (hU_o 217 _ rfl))⟩
  obtain ⟨x1661_o, x1662_o, x1663_o, x1664_o⟩ := y_l
  obtain ⟨e1666_o, h1665_o⟩ := hy_o
  dsimp only at e1666_o h1665_o
  subst e1666_o
  show gQ (sb_249_9 217 x1662_o x1663_o x1664_o) _
  unfold sb_249_9
  refine gQ_ite ?_ ?_
  · refine gQ_loop (fun y_l => y_l.1 = 217 ∧ Fw W g (y_l.2.2.2.2)) (fun y_l hy_o => ?_) ⟨rfl, h1665_o⟩
    obtain ⟨x1667_o, x1668_o, x1669_o, x1670_o, x1671_o⟩ := y_l
    obtain ⟨e1673_o, h1672_o⟩ := hy_o
    dsimp only at e1673_o h1672_o
    subst e1673_o
    show gQ (sb_249_23 217 x1668_o x1669_o x1670_o x1671_o) _
    unfold sb_249_23
    refine gQ_ite ?_ ?_
    · refine gQ_v1 (A := Fw W g) (om_156 hg_o hU_o rfl h1672_o) (fun v3 s2_l h1674_o => ?_)
      refine gQ_v1 (A := Fw W g) (om_156 hg_o hU_o rfl h1674_o) (fun v5 s4_l h1675_o => ?_)
      refine gQ_ite ?_ ?_
      · exact gQ_ret ⟨rfl, h1675_o⟩
      · exact gQ_ret ⟨rfl, h1675_o⟩
    · refine gQ_map ?_
      exact gQ_ret ⟨rfl, h1672_o⟩
  · refine gQ_map ?_
    exact gQ_ret h1665_o

theorem om_250 {W : Nat → Nat → Bool} {g s : gS} {a0 : Nat} {a1 : Int} (hg_o : RF g) (hU_o : ∀ a k, mss a k = true → W a k = true) (ea0_o : a0 = 217) (h_o : Fw W g s) : gQ (f_250 a0 a1 s) (fun r => Fw W g r.2.2.2) := by
  subst ea0_o
  unfold f_250
  refine gQ_v1 (A := Fw W g) (om_150 hg_o hU_o  h_o) (fun v2 s1_l h1676_o => ?_)
  refine gQ_ite ?_ ?_
  · unfold fb_250_15
    dsimp only
    refine gQ_loop (fun y_l => y_l.1 = 217 ∧ Fw W g (y_l.2.2.2.2)) (fun y_l hy_o => ?_) ⟨rfl, (Fw_w h1676_o rfl (hU_o 217 _ rfl))⟩
    obtain ⟨x1677_o, x1678_o, x1679_o, x1680_o, x1681_o⟩ := y_l
    obtain ⟨e1683_o, h1682_o⟩ := hy_o
    dsimp only at e1683_o h1682_o
    subst e1683_o
    show gQ (sb_250_22 217 x1678_o x1679_o x1680_o x1681_o) _
    unfold sb_250_22
    dsimp only
    refine gQ_ite ?_ ?_
    · refine gQ_ite ?_ ?_
      · refine gQ_v1 (A := Fw W g) (om_156 hg_o hU_o rfl h1682_o) (fun v6 s5 h1684_o => ?_)
        refine gQ_v1 (A := Fw W g) (om_153 hg_o hU_o  h1684_o) (fun v8 s7 h1685_o => ?_)
        refine gQ_ite ?_ ?_
        · exact gQ_ret ⟨rfl, h1685_o⟩
        · exact gQ_ret ⟨rfl, h1685_o⟩
      · refine gQ_map ?_
        exact gQ_ret h1682_o
    · refine gQ_map ?_
      exact gQ_ret h1682_o
  · unfold fb_250_15
    dsimp only
    refine gQ_loop (fun y_l => y_l.1 = 217 ∧ Fw W g (y_l.2.2.2.2)) (fun y_l hy_o => ?_) ⟨rfl, (Fw_w h1676_o rfl (hU_o 217 _ rfl))⟩
    obtain ⟨x1686_o, x1687_o, x1688_o, x1689_o, x1690_o⟩ := y_l
    obtain ⟨e1692_o, h1691_o⟩ := hy_o
    dsimp only at e1692_o h1691_o
    subst e1692_o
    show gQ (sb_250_22 217 x1687_o x1688_o x1689_o x1690_o) _
    unfold sb_250_22
    dsimp only
    refine gQ_ite ?_ ?_
    · refine gQ_ite ?_ ?_
      · refine gQ_v1 (A := Fw W g) (om_156 hg_o hU_o rfl h1691_o) (fun v6 s5 h1693_o => ?_)
        refine gQ_v1 (A := Fw W g) (om_153 hg_o hU_o  h1693_o) (fun v8 s7 h1694_o => ?_)
        refine gQ_ite ?_ ?_
        · exact gQ_ret ⟨rfl, h1694_o⟩
        · exact gQ_ret ⟨rfl, h1694_o⟩
      · refine gQ_map ?_
        exact gQ_ret h1691_o
    · refine gQ_map ?_
      exact gQ_ret h1691_o

theorem om_251 {W : Nat → Nat → Bool} {g s : gS} {a0 : Nat} (hg_o : RF g) (hU_o : ∀ a k, mss a k = true → W a k = true) (ea0_o : a0 = 217) (h_o : Fw W g s) : gQ (f_251 a0 s) (fun r => Fw W g r.2.2.2) := by
  subst ea0_o
  unfold f_251
  dsimp only
  refine gQ_loop (fun y_l => y_l.1 = 217 ∧ Fw W g (y_l.2.2.2)) (fun y_l hy_o => ?_) ⟨rfl, (Fw_w h_o rfl (hU_o 217 _ rfl))⟩
  obtain ⟨x1695_o, x1696_o, x1697_o, x1698_o⟩ := y_l
  obtain ⟨e1700_o, h1699_o⟩ := hy_o
  dsimp only at e1700_o h1699_o
  subst e1700_o
  show gQ (sb_251_9 217 x1696_o x1697_o x1698_o) _
  unfold sb_251_9
  refine gQ_ite ?_ ?_
  · refine gQ_ite ?_ ?_
    · unfold fb_251_39
      exact gQ_ret ⟨rfl, h1699_o⟩
    · refine gQ_v1 (A := Fw W g) (om_155 hg_o hU_o rfl h1699_o) (fun v3 s2_l h1701_o => ?_)
      refine gQ_v1 (A := Fw W g) (om_155 hg_o hU_o rfl h1701_o) (fun v5 s4_l h1702_o => ?_)
      refine gQ_ite ?_ ?_
      · unfold fb_251_39
        exact gQ_ret ⟨rfl, h1702_o⟩
      · exact gQ_ret ⟨rfl, h1702_o⟩
  · refine gQ_map ?_
    exact gQ_ret h1699_o

theorem om_253 {W : Nat → Nat → Bool} {g s : gS} {a0 : Nat} {a1 : Int} (hg_o : RF g) (hU_o : ∀ a k, mss a k = true → W a k = true) (ea0_o : a0 = 217) (h_o : Fw W g s) : gQ (f_253 a0 a1 s) (fun r => Fw W g r.2.2.2) := by
  subst ea0_o
  unfold f_253
  dsimp only
  refine gQ_ite ?_ ?_
  · unfold fb_253_15
    refine gQ_v1 (A := Fw W g) (om_252 hg_o hU_o rfl (Fw_w h_o rfl (hU_o 217 _ rfl))) (fun v3 s2_l h1703_o => ?_)
    exact gQ_ret h1703_o
  · unfold fb_253_15
    refine gQ_v1 (A := Fw W g) (om_252 hg_o hU_o rfl (Fw_w h_o rfl (hU_o 217 _ rfl))) (fun v3 s2_l h1704_o => ?_)
    exact gQ_ret h1704_o

theorem om_256 {W : Nat → Nat → Bool} {g s : gS} {a0 : Nat} {a1 : Int} {a2 : Int} (hg_o : RF g) (hU_o : ∀ a k, mss a k = true → W a k = true) (ea0_o : a0 = 217) (h_o : Fw W g s) : gQ (f_256 a0 a1 a2 s) (fun r => Fw W g r.2.2.2) := by
  subst ea0_o
  unfold f_256
  refine gQ_chk2 (fun ha1705_o hb1706_o => ?_)
  exact gQ_ret h_o

theorem om_257 {W : Nat → Nat → Bool} {g s : gS} {a0 : Nat} {a1 : Int} {a2 : Int} (hg_o : RF g) (hU_o : ∀ a k, mss a k = true → W a k = true) (ea0_o : a0 = 217) (h_o : Fw W g s) : gQ (f_257 a0 a1 a2 s) (fun r => Fw W g r.2.2.2) := by
  subst ea0_o
  unfold f_257
  refine gQ_v1 (A := Fw W g) (om_162 hg_o hU_o rfl h_o) (fun v2 s1_l h1707_o => ?_)
  refine gQ_ite ?_ ?_
  · unfold fb_257_14
    dsimp only
    refine gQ_loop (fun y_l => y_l.1 = 217 ∧ Fw W g (y_l.2.2.2.2.2)) (fun y_l hy_o => ?_) ⟨rfl, (Fw_w h1707_o rfl (hU_o 217 _ rfl))⟩
    obtain ⟨x1708_o, x1709_o, x1710_o, x1711_o, x1712_o, x1713_o⟩ := y_l
    obtain ⟨e1715_o, h1714_o⟩ := hy_o
    dsimp only at e1715_o h1714_o
    subst e1715_o
    show gQ (sb_257_22 217 x1709_o x1710_o x1711_o x1712_o x1713_o) _
    unfold sb_257_22
    refine gQ_ite ?_ ?_
    · refine gQ_ite ?_ ?_
      · refine gQ_v1 (A := Fw W g) (om_256 hg_o hU_o rfl h1714_o) (fun v6 s5 h1716_o => ?_)
        refine gQ_ite ?_ ?_
        · refine gQ_ite ?_ ?_
          · exact gQ_ret ⟨rfl, h1716_o⟩
          · refine gQ_v1 (A := Fw W g) (om_256 hg_o hU_o rfl h1716_o) (fun v8 s7 h1717_o => ?_)
            refine gQ_ite ?_ ?_
            · exact gQ_ret ⟨rfl, h1717_o⟩
            · unfold fb_257_72
              exact gQ_ret ⟨rfl, h1717_o⟩
        · unfold fb_257_72
          exact gQ_ret ⟨rfl, h1716_o⟩
      · refine gQ_map ?_
        exact gQ_ret h1714_o
    · refine gQ_map ?_
      exact gQ_ret h1714_o
  · unfold fb_257_14
    dsimp only
    refine gQ_loop (fun y_l => y_l.1 = 217 ∧ Fw W g (y_l.2.2.2.2.2)) (fun y_l hy_o => ?_) ⟨rfl, (Fw_w h1707_o rfl (hU_o 217 _ rfl))⟩
    obtain ⟨x1718_o, x1719_o, x1720_o, x1721_o, x1722_o, x1723_o⟩ := y_l
    obtain ⟨e1725_o, h1724_o⟩ := hy_o
    dsimp only at e1725_o h1724_o
    subst e1725_o
    show gQ (sb_257_22 217 x1719_o x1720_o x1721_o x1722_o x1723_o) _
    unfold sb_257_22
    refine gQ_ite ?_ ?_
    · refine gQ_ite ?_ ?_
      · refine gQ_v1 (A := Fw W g) (om_256 hg_o hU_o rfl h1724_o) (fun v6 s5 h1726_o => ?_)
        refine gQ_ite ?_ ?_
        · refine gQ_ite ?_ ?_
          · exact gQ_ret ⟨rfl, h1726_o⟩
          · refine gQ_v1 (A := Fw W g) (om_256 hg_o hU_o rfl h1726_o) (fun v8 s7 h1727_o => ?_)
            refine gQ_ite ?_ ?_
            · exact gQ_ret ⟨rfl, h1727_o⟩
            · unfold fb_257_72
              exact gQ_ret ⟨rfl, h1727_o⟩
        · unfold fb_257_72
          exact gQ_ret ⟨rfl, h1726_o⟩
      · refine gQ_map ?_
        exact gQ_ret h1724_o
    · refine gQ_map ?_
      exact gQ_ret h1724_o

theorem om_258 {W : Nat → Nat → Bool} {g s : gS} {a0 : Nat} {a1 : Int} {a2 : Int} (hg_o : RF g) (hU_o : ∀ a k, mss a k = true → W a k = true) (ea0_o : a0 = 217) (h_o : Fw W g s) : gQ (f_258 a0 a1 a2 s) (fun r => Fw W g r.2.2.2) := by
  subst ea0_o
  unfold f_258
  refine gQ_v1 (A := Fw W g) (om_150 hg_o hU_o  h_o) (fun v2 s1_l h1728_o => ?_)
  refine gQ_ite ?_ ?_
  · unfold fb_258_15
    dsimp only
    refine gQ_ite ?_ ?_
    · exact gQ_ret (Fw_w h1728_o rfl (hU_o 217 _ rfl))
    · refine gQ_v1 (A := Fw W g) (om_150 hg_o hU_o  (Fw_w h1728_o rfl (hU_o 217 _ rfl))) (fun v6 s5 h1729_o => ?_)
      refine gQ_ite ?_ ?_
      · exact gQ_ret h1729_o
      · refine gQ_v1 (A := Fw W g) (om_256 hg_o hU_o rfl h1729_o) (fun v9 s8 h1730_o => ?_)
        exact gQ_ret h1730_o
  · unfold fb_258_15
    dsimp only
    refine gQ_ite ?_ ?_
    · exact gQ_ret (Fw_w h1728_o rfl (hU_o 217 _ rfl))
    · refine gQ_v1 (A := Fw W g) (om_150 hg_o hU_o  (Fw_w h1728_o rfl (hU_o 217 _ rfl))) (fun v6 s5 h1731_o => ?_)
      refine gQ_ite ?_ ?_
      · exact gQ_ret h1731_o
      · refine gQ_v1 (A := Fw W g) (om_256 hg_o hU_o rfl h1731_o) (fun v9 s8 h1732_o => ?_)
        exact gQ_ret h1732_o

theorem om_263 {W : Nat → Nat → Bool} {g s : gS} {a0 : Nat} {a1 : Int} (hg_o : RF g) (hU_o : ∀ a k, mss a k = true → W a k = true) (ea0_o : a0 = 217) (h_o : Fw W g s) : gQ (f_263 a0 a1 s) (fun r => Fw W g r.2.2.2) := by
  subst ea0_o
  unfold f_263
  dsimp only
  refine gQ_v1 (A := Fw W g) (om_150 hg_o hU_o  (Fw_w h_o rfl (hU_o 217 _ rfl))) (fun v3 s2_l h1733_o => ?_)
  refine gQ_ite ?_ ?_
  · refine gQ_ite ?_ ?_
    · exact gQ_ret h1733_o
    · refine gQ_ite ?_ ?_
      · exact gQ_ret h1733_o
      · refine gQ_ite ?_ ?_
        · exact gQ_ret h1733_o
        · refine gQ_v1 (A := Fw W g) (om_150 hg_o hU_o  h1733_o) (fun v6 s5 h1734_o => ?_)
          refine gQ_ite ?_ ?_
          · refine gQ_ite ?_ ?_
            · refine gQ_loop (fun y_l => y_l.1 = 217 ∧ Fw W g (y_l.2.2.2)) (fun y_l hy_o => ?_) ⟨rfl, h1734_o⟩
              obtain ⟨x1735_o, x1736_o, x1737_o, x1738_o⟩ := y_l
              obtain ⟨e1740_o, h1739_o⟩ := hy_o
              dsimp only at e1740_o h1739_o
              subst e1740_o
              show gQ (sb_263_95 217 x1736_o x1737_o x1738_o) _
              unfold sb_263_95
              refine gQ_ite ?_ ?_
              · refine gQ_v1 (A := Fw W g) (om_165 hg_o hU_o rfl h1739_o) (fun v9 s8 h1741_o => ?_)
                refine gQ_ite ?_ ?_
                · exact gQ_ret ⟨rfl, h1741_o⟩
                · refine gQ_v1 (A := Fw W g) (om_156 hg_o hU_o rfl h1741_o) (fun v12 s11 h1742_o => ?_)
                  exact gQ_ret ⟨rfl, h1742_o⟩
              · refine gQ_map ?_
                exact gQ_ret h1739_o
            · refine gQ_ite ?_ ?_
              · exact gQ_ret h1734_o
              · refine gQ_ite ?_ ?_
                · exact gQ_ret h1734_o
                · exact gQ_ret h1734_o
          · refine gQ_chk2 (fun ha1743_o hb1744_o => ?_)
            exact gQ_ret h1734_o
  · refine gQ_chk2 (fun ha1745_o hb1746_o => ?_)
    exact gQ_ret h1733_o
