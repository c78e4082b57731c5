theorem rt_96 {s : gS} {a0 : Nat} {a1 : Int} (hg_o : RF s) (hn_o : 232 ≤ gn s) (e0_o : a0 = 0) (h_o : Rt s) : gQ (f_96 a0 a1 s) (fun r => Rt r.2.2.2) := by
  subst e0_o
  unfold f_96
  dsimp only
  refine gQ_t0 (A := Fw WR s) (o_135 hg_o (qd_o ud) rfl (Fw_rf (W := WR) hn_o)) (fun s1_l h2128_o => ?_) (fun _ _ hz_o => (Rt_fw h_o hz_o))
  refine gQ_t0 (A := Fw WR s) (o_139 hg_o (qd_o ud) rfl h2128_o) (fun s3_l h2129_o => ?_) (fun _ _ hz_o => (Rt_fw h_o hz_o))
  refine gQ_chk2 (fun ha2130_o hb2131_o => ?_)
  refine gQ_ite ?_ ?_
  · exact gQ_ret (Rt_fw h_o (Fw_n h2129_o))
  · refine gQ_v0 (A := fun u_o => Rt u_o ∧ RF u_o ∧ 232 ≤ gn u_o) (rt_140 (RF_fw hg_o h2129_o) (Fw_232 h2129_o) rfl (Rt_fw h_o h2129_o)) (fun s6_l hp2132_o => ?_)
    refine gQ_v0 (A := Fw WR s6_l) (o_60 hp2132_o.2.1 (qd_o ud) (fr_m16 h2129_o hg_o ud (fr_r h2129_o (fr_r h2129_o rfl (rr_0_5 hg_o)) (rr_15_0 hg_o)) ha2130_o hb2131_o) (Fw_wv (Fw_rf (W := WR) hp2132_o.2.2) ((fr_m16 h2129_o hg_o ud (fr_r h2129_o (fr_r h2129_o rfl (rr_0_5 hg_o)) (rr_15_0 hg_o)) ha2130_o hb2131_o) _ (by decide)))) (fun s9 h2133_o => ?_)
    refine gQ_v0 (A := Fw WR s6_l) (o_55 hp2132_o.2.1 ud (fr_r h2133_o (fr_r h2133_o rfl (rr_0_5 hp2132_o.2.1)) (rr_15_3 hp2132_o.2.1)) h2133_o) (fun s11 h2134_o => ?_)
    exact gQ_ret (Rt_fw hp2132_o.1 h2134_o)

theorem rt_97 {s : gS} {a0 : Nat} {a1 : Int} {a2 : Int} (hg_o : RF s) (hn_o : 232 ≤ gn s) (e0_o : a0 = 0) (h_o : Rt s) : gQ (f_97 a0 a1 a2 s) (fun r => Rt r.2.2.2) := by
  subst e0_o
  unfold f_97
  dsimp only
  refine gQ_t0 (A := Fw WR s) (o_135 hg_o (qd_o ud) rfl (Fw_rf (W := WR) hn_o)) (fun s1_l h2135_o => ?_) (fun _ _ hz_o => (Rt_fw h_o hz_o))
  refine gQ_t0 (A := Fw WR s) (o_136 hg_o (qd_o ud) rfl h2135_o) (fun s3_l h2136_o => ?_) (fun _ _ hz_o => (Rt_fw h_o hz_o))
  refine gQ_t0 (A := Fw WR s) (o_139 hg_o (qd_o ud) rfl h2136_o) (fun s5 h2137_o => ?_) (fun _ _ hz_o => (Rt_fw h_o hz_o))
  refine gQ_v0 (A := fun u_o => Rt u_o ∧ RF u_o ∧ 232 ≤ gn u_o) (rt_140 (RF_fw hg_o h2137_o) (Fw_232 h2137_o) rfl (Rt_fw h_o h2137_o)) (fun s7 hp2138_o => ?_)
  refine gQ_chk2 (fun ha2139_o hb2140_o => ?_)
  refine gQ_v0 (A := Fw WR s7) (o_26d hp2138_o.2.1 ud (fr_r (Fw_rf (W := WR) hp2138_o.2.2) rfl (rr_0_5 hp2138_o.2.1)) (Fw_rf (W := WR) hp2138_o.2.2)) (fun s9 h2141_o => ?_)
  refine gQ_chk2 (fun ha2142_o hb2143_o => ?_)
  refine gQ_v1 (A := Fw WR s7) (o_4 hp2138_o.2.1 (qd_o ud)  h2141_o) (fun v13 s12 h2144_o => ?_)
  refine gQ_ite ?_ ?_
  · refine gQ_v0 (A := Fw WR s7) (o_60 hp2138_o.2.1 (qd_o ud) (fr_m16 h2141_o hp2138_o.2.1 ud (fr_r h2141_o (fr_r h2141_o rfl (rr_0_5 hp2138_o.2.1)) (rr_15_0 hp2138_o.2.1)) ha2142_o hb2143_o) h2144_o) (fun s15 h2145_o => ?_)
    unfold fb_97_82
    dsimp only
    refine gQ_ite ?_ ?_
    · unfold fb_97_101
      refine gQ_ite ?_ ?_
      · unfold fb_97_126
        refine gQ_v0 (A := Fw WR s7) (o_55 hp2138_o.2.1 ud (fr_r (Fw_wv h2145_o ((fr_m16 h2141_o hp2138_o.2.1 ud (fr_r h2141_o (fr_r h2141_o rfl (rr_0_5 hp2138_o.2.1)) (rr_15_0 hp2138_o.2.1)) ha2142_o hb2143_o) _ (by decide))) (fr_r (Fw_wv h2145_o ((fr_m16 h2141_o hp2138_o.2.1 ud (fr_r h2141_o (fr_r h2141_o rfl (rr_0_5 hp2138_o.2.1)) (rr_15_0 hp2138_o.2.1)) ha2142_o hb2143_o) _ (by decide))) rfl (rr_0_5 hp2138_o.2.1)) (rr_15_3 hp2138_o.2.1)) (Fw_wv h2145_o ((fr_m16 h2141_o hp2138_o.2.1 ud (fr_r h2141_o (fr_r h2141_o rfl (rr_0_5 hp2138_o.2.1)) (rr_15_0 hp2138_o.2.1)) ha2142_o hb2143_o) _ (by decide)))) (fun s18 h2146_o => ?_)
        refine gQ_bool ?_
        exact gQ_ret (Rt_fw hp2138_o.1 h2146_o)
      · unfold fb_97_126
        refine gQ_v0 (A := Fw WR s7) (o_55 hp2138_o.2.1 ud (fr_r (Fw_wv h2145_o ((fr_m16 h2141_o hp2138_o.2.1 ud (fr_r h2141_o (fr_r h2141_o rfl (rr_0_5 hp2138_o.2.1)) (rr_15_0 hp2138_o.2.1)) ha2142_o hb2143_o) _ (by decide))) (fr_r (Fw_wv h2145_o ((fr_m16 h2141_o hp2138_o.2.1 ud (fr_r h2141_o (fr_r h2141_o rfl (rr_0_5 hp2138_o.2.1)) (rr_15_0 hp2138_o.2.1)) ha2142_o hb2143_o) _ (by decide))) rfl (rr_0_5 hp2138_o.2.1)) (rr_15_3 hp2138_o.2.1)) (Fw_wv h2145_o ((fr_m16 h2141_o hp2138_o.2.1 ud (fr_r h2141_o (fr_r h2141_o rfl (rr_0_5 hp2138_o.2.1)) (rr_15_0 hp2138_o.2.1)) ha2142_o hb2143_o) _ (by decide)))) (fun s18 h2147_o => ?_)
        refine gQ_bool ?_
        exact gQ_ret (Rt_fw hp2138_o.1 h2147_o)
    · unfold fb_97_101
      refine gQ_ite ?_ ?_
      · unfold fb_97_126
        refine gQ_v0 (A := Fw WR s7) (o_55 hp2138_o.2.1 ud (fr_r h2145_o (fr_r h2145_o rfl (rr_0_5 hp2138_o.2.1)) (rr_15_3 hp2138_o.2.1)) h2145_o) (fun s18 h2148_o => ?_)
        refine gQ_bool ?_
        exact gQ_ret (Rt_fw hp2138_o.1 h2148_o)
      · unfold fb_97_126
        refine gQ_v0 (A := Fw WR s7) (o_55 hp2138_o.2.1 ud (fr_r h2145_o (fr_r h2145_o rfl (rr_0_5 hp2138_o.2.1)) (rr_15_3 hp2138_o.2.1)) h2145_o) (fun s18 h2149_o => ?_)
        refine gQ_bool ?_
        exact gQ_ret (Rt_fw hp2138_o.1 h2149_o)
  · unfold fb_97_82
    dsimp only
    refine gQ_ite ?_ ?_
    · unfold fb_97_101
      refine gQ_ite ?_ ?_
      · unfold fb_97_126
        refine gQ_v0 (A := Fw WR s7) (o_55 hp2138_o.2.1 ud (fr_r (Fw_wv (Fw_wv h2144_o ((fr_m16 h2141_o hp2138_o.2.1 ud (fr_r h2141_o (fr_r h2141_o rfl (rr_0_5 hp2138_o.2.1)) (rr_15_0 hp2138_o.2.1)) ha2142_o hb2143_o) _ (by decide))) ((fr_m16 h2141_o hp2138_o.2.1 ud (fr_r h2141_o (fr_r h2141_o rfl (rr_0_5 hp2138_o.2.1)) (rr_15_0 hp2138_o.2.1)) ha2142_o hb2143_o) _ (by decide))) (fr_r (Fw_wv (Fw_wv h2144_o ((fr_m16 h2141_o hp2138_o.2.1 ud (fr_r h2141_o (fr_r h2141_o rfl (rr_0_5 hp2138_o.2.1)) (rr_15_0 hp2138_o.2.1)) ha2142_o hb2143_o) _ (by decide))) ((fr_m16 h2141_o hp2138_o.2.1 ud (fr_r h2141_o (fr_r h2141_o rfl (rr_0_5 hp2138_o.2.1)) (rr_15_0 hp2138_o.2.1)) ha2142_o hb2143_o) _ (by decide))) rfl (rr_0_5 hp2138_o.2.1)) (rr_15_3 hp2138_o.2.1)) (Fw_wv (Fw_wv h2144_o ((fr_m16 h2141_o hp2138_o.2.1 ud (fr_r h2141_o (fr_r h2141_o rfl (rr_0_5 hp2138_o.2.1)) (rr_15_0 hp2138_o.2.1)) ha2142_o hb2143_o) _ (by decide))) ((fr_m16 h2141_o hp2138_o.2.1 ud (fr_r h2141_o (fr_r h2141_o rfl (rr_0_5 hp2138_o.2.1)) (rr_15_0 hp2138_o.2.1)) ha2142_o hb2143_o) _ (by decide)))) (fun s18 h2150_o => ?_)
        refine gQ_bool ?_
        exact gQ_ret (Rt_fw hp2138_o.1 h2150_o)
      · unfold fb_97_126
        refine gQ_v0 (A := Fw WR s7) (o_55 hp2138_o.2.1 ud (fr_r (Fw_wv (Fw_wv h2144_o ((fr_m16 h2141_o hp2138_o.2.1 ud (fr_r h2141_o (fr_r h2141_o rfl (rr_0_5 hp2138_o.2.1)) (rr_15_0 hp2138_o.2.1)) ha2142_o hb2143_o) _ (by decide))) ((fr_m16 h2141_o hp2138_o.2.1 ud (fr_r h2141_o (fr_r h2141_o rfl (rr_0_5 hp2138_o.2.1)) (rr_15_0 hp2138_o.2.1)) ha2142_o hb2143_o) _ (by decide))) (fr_r (Fw_wv (Fw_wv h2144_o ((fr_m16 h2141_o hp2138_o.2.1 ud (fr_r h2141_o (fr_r h2141_o rfl (rr_0_5 hp2138_o.2.1)) (rr_15_0 hp2138_o.2.1)) ha2142_o hb2143_o) _ (by decide))) ((fr_m16 h2141_o hp2138_o.2.1 ud (fr_r h2141_o (fr_r h2141_o rfl (rr_0_5 hp2138_o.2.1)) (rr_15_0 hp2138_o.2.1)) ha2142_o hb2143_o) _ (by decide))) rfl (rr_0_5 hp2138_o.2.1)) (rr_15_3 hp2138_o.2.1)) (Fw_wv (Fw_wv h2144_o ((fr_m16 h2141_o hp2138_o.2.1 ud (fr_r h2141_o (fr_r h2141_o rfl (rr_0_5 hp2138_o.2.1)) (rr_15_0 hp2138_o.2.1)) ha2142_o hb2143_o) _ (by decide))) ((fr_m16 h2141_o hp2138_o.2.1 ud (fr_r h2141_o (fr_r h2141_o rfl (rr_0_5 hp2138_o.2.1)) (rr_15_0 hp2138_o.2.1)) ha2142_o hb2143_o) _ (by decide)))) (fun s18 h2151_o => ?_)
        refine gQ_bool ?_
        exact gQ_ret (Rt_fw hp2138_o.1 h2151_o)
    · unfold fb_97_101
      refine gQ_ite ?_ ?_
      · unfold fb_97_126
        refine gQ_v0 (A := Fw WR s7) (o_55 hp2138_o.2.1 ud (fr_r (Fw_wv h2144_o ((fr_m16 h2141_o hp2138_o.2.1 ud (fr_r h2141_o (fr_r h2141_o rfl (rr_0_5 hp2138_o.2.1)) (rr_15_0 hp2138_o.2.1)) ha2142_o hb2143_o) _ (by decide))) (fr_r (Fw_wv h2144_o ((fr_m16 h2141_o hp2138_o.2.1 ud (fr_r h2141_o (fr_r h2141_o rfl (rr_0_5 hp2138_o.2.1)) (rr_15_0 hp2138_o.2.1)) ha2142_o hb2143_o) _ (by decide))) rfl (rr_0_5 hp2138_o.2.1)) (rr_15_3 hp2138_o.2.1)) (Fw_wv h2144_o ((fr_m16 h2141_o hp2138_o.2.1 ud (fr_r h2141_o (fr_r h2141_o rfl (rr_0_5 hp2138_o.2.1)) (rr_15_0 hp2138_o.2.1)) ha2142_o hb2143_o) _ (by decide)))) (fun s18 h2152_o => ?_)
        refine gQ_bool ?_
        exact gQ_ret (Rt_fw hp2138_o.1 h2152_o)
      · unfold fb_97_126
        refine gQ_v0 (A := Fw WR s7) (o_55 hp2138_o.2.1 ud (fr_r (Fw_wv h2144_o ((fr_m16 h2141_o hp2138_o.2.1 ud (fr_r h2141_o (fr_r h2141_o rfl (rr_0_5 hp2138_o.2.1)) (rr_15_0 hp2138_o.2.1)) ha2142_o hb2143_o) _ (by decide))) (fr_r (Fw_wv h2144_o ((fr_m16 h2141_o hp2138_o.2.1 ud (fr_r h2141_o (fr_r h2141_o rfl (rr_0_5 hp2138_o.2.1)) (rr_15_0 hp2138_o.2.1)) ha2142_o hb2143_o) _ (by decide))) rfl (rr_0_5 hp2138_o.2.1)) (rr_15_3 hp2138_o.2.1)) (Fw_wv h2144_o ((fr_m16 h2141_o hp2138_o.2.1 ud (fr_r h2141_o (fr_r h2141_o rfl (rr_0_5 hp2138_o.2.1)) (rr_15_0 hp2138_o.2.1)) ha2142_o hb2143_o) _ (by decide)))) (fun s18 h2153_o => ?_)
        refine gQ_bool ?_
        exact gQ_ret (Rt_fw hp2138_o.1 h2153_o)

theorem rt_98 {s : gS} {a0 : Nat} {a1 : Int} (hg_o : RF s) (hn_o : 232 ≤ gn s) (e0_o : a0 = 0) (h_o : Rt s) : gQ (f_98 a0 a1 s) (fun r => Rt r.2.2.2) := by
  subst e0_o
  unfold f_98
  dsimp only
  refine gQ_t0 (A := Fw WR s) (o_135 hg_o (qd_o ud) rfl (Fw_rf (W := WR) hn_o)) (fun s1_l h2154_o => ?_) (fun _ _ hz_o => (Rt_fw h_o hz_o))
  refine gQ_t0 (A := Fw WR s) (o_139 hg_o (qd_o ud) rfl h2154_o) (fun s3_l h2155_o => ?_) (fun _ _ hz_o => (Rt_fw h_o hz_o))
  refine gQ_chk2 (fun ha2156_o hb2157_o => ?_)
  refine gQ_ite ?_ ?_
  · exact gQ_ret (Rt_fw h_o (Fw_n h2155_o))
  · refine gQ_v0 (A := fun u_o => Rt u_o ∧ RF u_o ∧ 232 ≤ gn u_o) (rt_140 (RF_fw hg_o h2155_o) (Fw_232 h2155_o) rfl (Rt_fw h_o h2155_o)) (fun s6_l hp2158_o => ?_)
    exact gQ_ret (Rt_fw hp2158_o.1 (Fw_wv (Fw_rf (W := WR) hp2158_o.2.2) ((fr_m16 h2155_o hg_o ud (fr_r h2155_o (fr_r h2155_o rfl (rr_0_5 hg_o)) (rr_15_0 hg_o)) ha2156_o hb2157_o) _ (by decide))))

theorem rt_99 {s : gS} {a0 : Nat} {a1 : Int} {a2 : Int} {a3 : Int} (hg_o : RF s) (hn_o : 232 ≤ gn s) (e0_o : a0 = 0) (h_o : Rt s) : gQ (f_99 a0 a1 a2 a3 s) (fun r => Rt r.2.2.2) := by
  subst e0_o
  unfold f_99
  dsimp only
  refine gQ_t0 (A := Fw WR s) (o_135 hg_o (qd_o ud) rfl (Fw_rf (W := WR) hn_o)) (fun s1_l h2159_o => ?_) (fun _ _ hz_o => (Rt_fw h_o hz_o))
  refine gQ_t0 (A := Fw WR s) (o_137 hg_o (qd_o ud) rfl h2159_o) (fun s3_l h2160_o => ?_) (fun _ _ hz_o => (Rt_fw h_o hz_o))
  refine gQ_chk2 (fun ha2161_o hb2162_o => ?_)
  refine gQ_t0 (A := Fw WR s) (o_138 hg_o (qd_o ud) rfl h2160_o) (fun s5 h2163_o => ?_) (fun _ _ hz_o => (Rt_fw h_o hz_o))
  refine gQ_t0 (A := Fw WR s) (o_139 hg_o (qd_o ud) rfl h2163_o) (fun s7 h2164_o => ?_) (fun _ _ hz_o => (Rt_fw h_o hz_o))
  refine gQ_v0 (A := fun u_o => Rt u_o ∧ RF u_o ∧ 232 ≤ gn u_o) (rt_140 (RF_fw hg_o h2164_o) (Fw_232 h2164_o) rfl (Rt_fw h_o h2164_o)) (fun s9 hp2165_o => ?_)
  refine gQ_chk2 (fun ha2166_o hb2167_o => ?_)
  refine gQ_chk2 (fun ha2168_o hb2169_o => ?_)
  refine gQ_chk2 (fun ha2170_o hb2171_o => ?_)
  refine gQ_chk2 (fun ha2172_o hb2173_o => ?_)
  refine gQ_chk2 (fun ha2174_o hb2175_o => ?_)
  exact gQ_ret (Rt_fw hp2165_o.1 (Fw_wv (Fw_w (Fw_w (Fw_w (Fw_rf (W := WR) hp2165_o.2.2) (fr_r (Fw_rf (W := WR) hp2165_o.2.2) (fr_r (Fw_rf (W := WR) hp2165_o.2.2) rfl (rr_0_5 hp2165_o.2.1)) (rr_15_1 hp2165_o.2.1)) (ud 17 _ rfl)) (fr_r (Fw_w (Fw_rf (W := WR) hp2165_o.2.2) (fr_r (Fw_rf (W := WR) hp2165_o.2.2) (fr_r (Fw_rf (W := WR) hp2165_o.2.2) rfl (rr_0_5 hp2165_o.2.1)) (rr_15_1 hp2165_o.2.1)) (ud 17 _ rfl)) rfl (rr_0_5 hp2165_o.2.1)) (ud 15 _ rfl)) (fr_r (Fw_w (Fw_w (Fw_rf (W := WR) hp2165_o.2.2) (fr_r (Fw_rf (W := WR) hp2165_o.2.2) (fr_r (Fw_rf (W := WR) hp2165_o.2.2) rfl (rr_0_5 hp2165_o.2.1)) (rr_15_1 hp2165_o.2.1)) (ud 17 _ rfl)) (fr_r (Fw_w (Fw_rf (W := WR) hp2165_o.2.2) (fr_r (Fw_rf (W := WR) hp2165_o.2.2) (fr_r (Fw_rf (W := WR) hp2165_o.2.2) rfl (rr_0_5 hp2165_o.2.1)) (rr_15_1 hp2165_o.2.1)) (ud 17 _ rfl)) rfl (rr_0_5 hp2165_o.2.1)) (ud 15 _ rfl)) (fr_r (Fw_w (Fw_w (Fw_rf (W := WR) hp2165_o.2.2) (fr_r (Fw_rf (W := WR) hp2165_o.2.2) (fr_r (Fw_rf (W := WR) hp2165_o.2.2) rfl (rr_0_5 hp2165_o.2.1)) (rr_15_1 hp2165_o.2.1)) (ud 17 _ rfl)) (fr_r (Fw_w (Fw_rf (W := WR) hp2165_o.2.2) (fr_r (Fw_rf (W := WR) hp2165_o.2.2) (fr_r (Fw_rf (W := WR) hp2165_o.2.2) rfl (rr_0_5 hp2165_o.2.1)) (rr_15_1 hp2165_o.2.1)) (ud 17 _ rfl)) rfl (rr_0_5 hp2165_o.2.1)) (ud 15 _ rfl)) rfl (rr_0_5 hp2165_o.2.1)) (rr_15_2 hp2165_o.2.1)) (ud 18 _ rfl)) ((fr_m16 (Fw_rf (W := WR) hp2165_o.2.2) hp2165_o.2.1 ud (fr_r (Fw_rf (W := WR) hp2165_o.2.2) (fr_r (Fw_rf (W := WR) hp2165_o.2.2) rfl (rr_0_5 hp2165_o.2.1)) (rr_15_0 hp2165_o.2.1)) ha2166_o hb2167_o) _ (by decide))))

theorem rt_100 {s : gS} {a0 : Nat} {a1 : Int} {a2 : Int} (hg_o : RF s) (hn_o : 232 ≤ gn s) (e0_o : a0 = 0) (h_o : Rt s) : gQ (f_100 a0 a1 a2 s) (fun r => Rt r.2.2.2) := by
  subst e0_o
  unfold f_100
  dsimp only
  refine gQ_t0 (A := Fw WR s) (o_134 hg_o (qd_o ud) rfl (Fw_rf (W := WR) hn_o)) (fun s1_l h2176_o => ?_) (fun _ _ hz_o => (Rt_fw h_o hz_o))
  refine gQ_t0 (A := Fw WR s) (o_137 hg_o (qd_o ud) rfl h2176_o) (fun s3_l h2177_o => ?_) (fun _ _ hz_o => (Rt_fw h_o hz_o))
  refine gQ_chk2 (fun ha2178_o hb2179_o => ?_)
  refine gQ_ite ?_ ?_
  · refine gQ_chk2 (fun ha2180_o hb2181_o => ?_)
    refine gQ_ite ?_ ?_
    · unfold fb_100_40
      exact gQ_ret (Rt_fw h_o (Fw_n h2177_o))
    · refine gQ_v0 (A := fun u_o => Rt u_o ∧ RF u_o ∧ 232 ≤ gn u_o) (rt_140 (RF_fw hg_o h2177_o) (Fw_232 h2177_o) rfl (Rt_fw h_o h2177_o)) (fun s5 hp2182_o => ?_)
      refine gQ_chk2 (fun ha2183_o hb2184_o => ?_)
      refine gQ_chk2 (fun ha2185_o hb2186_o => ?_)
      refine gQ_chk2 (fun ha2187_o hb2188_o => ?_)
      refine gQ_chk2 (fun ha2189_o hb2190_o => ?_)
      refine gQ_chk2 (fun ha2191_o hb2192_o => ?_)
      exact gQ_ret (Rt_fw hp2182_o.1 (Fw_w (Fw_w (Fw_rf (W := WR) hp2182_o.2.2) (fr_r (Fw_rf (W := WR) hp2182_o.2.2) (fr_r (Fw_rf (W := WR) hp2182_o.2.2) rfl (rr_0_5 hp2182_o.2.1)) (rr_15_1 hp2182_o.2.1)) (ud 17 _ rfl)) (fr_r (Fw_w (Fw_rf (W := WR) hp2182_o.2.2) (fr_r (Fw_rf (W := WR) hp2182_o.2.2) (fr_r (Fw_rf (W := WR) hp2182_o.2.2) rfl (rr_0_5 hp2182_o.2.1)) (rr_15_1 hp2182_o.2.1)) (ud 17 _ rfl)) (fr_r (Fw_w (Fw_rf (W := WR) hp2182_o.2.2) (fr_r (Fw_rf (W := WR) hp2182_o.2.2) (fr_r (Fw_rf (W := WR) hp2182_o.2.2) rfl (rr_0_5 hp2182_o.2.1)) (rr_15_1 hp2182_o.2.1)) (ud 17 _ rfl)) rfl (rr_0_5 hp2182_o.2.1)) (rr_15_2 hp2182_o.2.1)) (ud 18 _ rfl)))
  · unfold fb_100_40
    exact gQ_ret (Rt_fw h_o (Fw_n h2177_o))

theorem rt_101 {s : gS} {a0 : Nat} {a1 : Int} (hg_o : RF s) (hn_o : 232 ≤ gn s) (e0_o : a0 = 0) (h_o : Rt s) : gQ (f_101 a0 a1 s) (fun r => Rt r.2.2.2) := by
  subst e0_o
  unfold f_101
  dsimp only
  refine gQ_t0 (A := Fw WR s) (o_138 hg_o (qd_o ud) rfl (Fw_rf (W := WR) hn_o)) (fun s1_l h2193_o => ?_) (fun _ _ hz_o => (Rt_fw h_o hz_o))
  refine gQ_v0 (A := fun u_o => Rt u_o ∧ RF u_o ∧ 232 ≤ gn u_o) (rt_140 (RF_fw hg_o h2193_o) (Fw_232 h2193_o) rfl (Rt_fw h_o h2193_o)) (fun s3_l hp2194_o => ?_)
  exact gQ_ret (Rt_fw hp2194_o.1 (Fw_w (Fw_w (Fw_rf (W := WR) hp2194_o.2.2) (fr_r (Fw_rf (W := WR) hp2194_o.2.2) rfl (rr_0_5 hp2194_o.2.1)) (ud 15 _ rfl)) (fr_r (Fw_w (Fw_rf (W := WR) hp2194_o.2.2) (fr_r (Fw_rf (W := WR) hp2194_o.2.2) rfl (rr_0_5 hp2194_o.2.1)) (ud 15 _ rfl)) rfl (rr_0_5 hp2194_o.2.1)) (ud 15 _ rfl)))

theorem rt_102 {s : gS} {a0 : Nat} {a1 : Int} (hg_o : RF s) (hn_o : 232 ≤ gn s) (e0_o : a0 = 0) (h_o : Rt s) : gQ (f_102 a0 a1 s) (fun r => Rt r.2.2.2) := by
  subst e0_o
  unfold f_102
  refine gQ_t0 (A := Fw WR s) (o_138 hg_o (qd_o ud) rfl (Fw_rf (W := WR) hn_o)) (fun s1_l h2195_o => ?_) (fun _ _ hz_o => (Rt_fw h_o hz_o))
  refine gQ_v0 (A := fun u_o => Rt u_o ∧ RF u_o ∧ 232 ≤ gn u_o) (rt_140 (RF_fw hg_o h2195_o) (Fw_232 h2195_o) rfl (Rt_fw h_o h2195_o)) (fun s3_l hp2196_o => ?_)
  refine gQ_loop (fun y_l => y_l.1 = 0 ∧ Fw WR s3_l (y_l.2.2.2.2)) (fun y_l hy_o => ?_) ⟨rfl, (Fw_rf (W := WR) hp2196_o.2.2)⟩
  obtain ⟨x2197_o, x2198_o, x2199_o, x2200_o, x2201_o⟩ := y_l
  obtain ⟨e2203_o, h2202_o⟩ := hy_o
  dsimp only at e2203_o h2202_o
  subst e2203_o
  show gQ (sb_102_17 0 x2198_o x2199_o x2200_o x2201_o) _
  unfold sb_102_17
  refine gQ_ite ?_ ?_
  · refine gQ_v1 (A := Fw WR s3_l) (o_27d hp2196_o.2.1 ud (fr_r h2202_o rfl (rr_0_5 hp2196_o.2.1)) (fr_r h2202_o rfl (rr_0_4 hp2196_o.2.1)) (fr_r h2202_o rfl (rr_0_1 hp2196_o.2.1)) h2202_o) (fun v6 s5 h2204_o => ?_)
    exact gQ_ret ⟨rfl, h2204_o⟩
  · refine gQ_map ?_
    exact gQ_ret (Rt_fw hp2196_o.1 h2202_o)

theorem rt_129 {s : gS} {a0 : Nat} {a1 : Int} (hg_o : RF s) (hn_o : 232 ≤ gn s) (e0_o : a0 = 0) (h_o : Rt s) : gQ (f_129 a0 a1 s) (fun r => Rt r.2.2.2) := by
  subst e0_o
  unfold f_129
  dsimp only
  exact gQ_ret (Rt_fw h_o (Fw_w (Fw_rf (W := WR) hn_o) (fr_r (Fw_rf (W := WR) hn_o) rfl (rr_0_5 hg_o)) (ud 15 _ rfl)))
