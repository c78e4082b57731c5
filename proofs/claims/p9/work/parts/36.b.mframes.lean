theorem id_U : ∀ a k, msd a k = true → msd a k = true := fun _ _ h_l => h_l
theorem om_219 {W : Nat → Nat → Bool} {g s : gS} {a0 : Nat} {a1 : Int} {a2 : Int} {a3 : Int} (hg_o : RF g) (hU_o : ∀ a k, mss a k = true → W a k = true)  (hA_o : ∀ k, W 220 k = true) (hm_o : gI g 218 4 ≤ 6) (hw4_o : W 218 4 = false) (ea0_o : a0 = 217) (h_o : Fw W g s) : gQ (f_219 a0 a1 a2 a3 s) (fun r => Fw W g r.2.2.2) := by
  subst ea0_o
  unfold f_219
  refine gQ_v1 (A := Fw W g) (om_162 hg_o hU_o rfl h_o) (fun v2 s1_l h1747_o => ?_)
  refine gQ_ite ?_ ?_
  · unfold fb_219_42
    dsimp only
    refine gQ_ite ?_ ?_
    · exact gQ_ret (Fw_w h1747_o rfl (hU_o 217 _ rfl))
    · refine gQ_v0 (A := fun u_o => Fw W g u_o ∧ Asd u_o) (pa_185 hg_o hA_o rfl (Fw_w h1747_o rfl (hU_o 217 _ rfl))) (fun s5 hp1748_o => ?_)
      have hq1749_o : RF s5 := RF_fw hg_o hp1748_o.1
      have hm1750_o : gI s5 218 4 ≤ 6 := by rw [hp1748_o.1.2.2 218 4 (Nat.lt_of_lt_of_le (by decide) hp1748_o.1.1.1) hw4_o]; exact hm_o
      refine gQ_v1 (A := Fw msd s5) (om_202 hq1749_o id_U hm1750_o rfl rfl (Fw_rf (Fw_232 hp1748_o.1))) (fun v8 s7 h1751_o => ?_)
      refine gQ_ite ?_ ?_
      · refine gQ_v1 (A := Fw msd s5) (om_156 hq1749_o (mqd_o id_U) rfl h1751_o) (fun v10 s9 h1752_o => ?_)
        unfold fb_219_113
        refine gQ_v0 (A := Fw mss s5) (pa_186 hq1749_o hp1748_o.2 rfl h1752_o) (fun s11 h1753_o => ?_)
        exact gQ_ret (Fw_tr hp1748_o.1 h1753_o hU_o)
      · refine gQ_ite ?_ ?_
        · refine gQ_v1 (A := Fw msd s5) (om_156 hq1749_o (mqd_o id_U) rfl h1751_o) (fun v14 s13 h1754_o => ?_)
          unfold fb_219_113
          refine gQ_v0 (A := Fw mss s5) (pa_186 hq1749_o hp1748_o.2 rfl h1754_o) (fun s11 h1755_o => ?_)
          exact gQ_ret (Fw_tr hp1748_o.1 h1755_o hU_o)
        · refine gQ_ite ?_ ?_
          · refine gQ_v1 (A := Fw msd s5) (om_156 hq1749_o (mqd_o id_U) rfl h1751_o) (fun v16 s15 h1756_o => ?_)
            unfold fb_219_113
            refine gQ_v0 (A := Fw mss s5) (pa_186 hq1749_o hp1748_o.2 rfl h1756_o) (fun s11 h1757_o => ?_)
            exact gQ_ret (Fw_tr hp1748_o.1 h1757_o hU_o)
          · refine gQ_v1 (A := Fw msd s5) (om_156 hq1749_o (mqd_o id_U) rfl h1751_o) (fun v18 s17 h1758_o => ?_)
            unfold fb_219_113
            refine gQ_v0 (A := Fw mss s5) (pa_186 hq1749_o hp1748_o.2 rfl h1758_o) (fun s11 h1759_o => ?_)
            exact gQ_ret (Fw_tr hp1748_o.1 h1759_o hU_o)
  · refine gQ_v1 (A := Fw W g) (om_150 hg_o hU_o  h1747_o) (fun v20 s19 h1760_o => ?_)
    refine gQ_ite ?_ ?_
    · unfold fb_219_42
      dsimp only
      refine gQ_ite ?_ ?_
      · exact gQ_ret (Fw_w h1760_o rfl (hU_o 217 _ rfl))
      · refine gQ_v0 (A := fun u_o => Fw W g u_o ∧ Asd u_o) (pa_185 hg_o hA_o rfl (Fw_w h1760_o rfl (hU_o 217 _ rfl))) (fun s5 hp1761_o => ?_)
        have hq1762_o : RF s5 := RF_fw hg_o hp1761_o.1
        have hm1763_o : gI s5 218 4 ≤ 6 := by rw [hp1761_o.1.2.2 218 4 (Nat.lt_of_lt_of_le (by decide) hp1761_o.1.1.1) hw4_o]; exact hm_o
        refine gQ_v1 (A := Fw msd s5) (om_202 hq1762_o id_U hm1763_o rfl rfl (Fw_rf (Fw_232 hp1761_o.1))) (fun v8 s7 h1764_o => ?_)
        refine gQ_ite ?_ ?_
        · refine gQ_v1 (A := Fw msd s5) (om_156 hq1762_o (mqd_o id_U) rfl h1764_o) (fun v10 s9 h1765_o => ?_)
          unfold fb_219_113
          refine gQ_v0 (A := Fw mss s5) (pa_186 hq1762_o hp1761_o.2 rfl h1765_o) (fun s11 h1766_o => ?_)
          exact gQ_ret (Fw_tr hp1761_o.1 h1766_o hU_o)
        · refine gQ_ite ?_ ?_
          · refine gQ_v1 (A := Fw msd s5) (om_156 hq1762_o (mqd_o id_U) rfl h1764_o) (fun v14 s13 h1767_o => ?_)
            unfold fb_219_113
            refine gQ_v0 (A := Fw mss s5) (pa_186 hq1762_o hp1761_o.2 rfl h1767_o) (fun s11 h1768_o => ?_)
            exact gQ_ret (Fw_tr hp1761_o.1 h1768_o hU_o)
          · refine gQ_ite ?_ ?_
            · refine gQ_v1 (A := Fw msd s5) (om_156 hq1762_o (mqd_o id_U) rfl h1764_o) (fun v16 s15 h1769_o => ?_)
              unfold fb_219_113
              refine gQ_v0 (A := Fw mss s5) (pa_186 hq1762_o hp1761_o.2 rfl h1769_o) (fun s11 h1770_o => ?_)
              exact gQ_ret (Fw_tr hp1761_o.1 h1770_o hU_o)
            · refine gQ_v1 (A := Fw msd s5) (om_156 hq1762_o (mqd_o id_U) rfl h1764_o) (fun v18 s17 h1771_o => ?_)
              unfold fb_219_113
              refine gQ_v0 (A := Fw mss s5) (pa_186 hq1762_o hp1761_o.2 rfl h1771_o) (fun s11 h1772_o => ?_)
              exact gQ_ret (Fw_tr hp1761_o.1 h1772_o hU_o)
    · refine gQ_v1 (A := Fw W g) (om_150 hg_o hU_o  h1760_o) (fun v23 s22 h1773_o => ?_)
      refine gQ_ite ?_ ?_
      · unfold fb_219_42
        dsimp only
        refine gQ_ite ?_ ?_
        · exact gQ_ret (Fw_w h1773_o rfl (hU_o 217 _ rfl))
        · refine gQ_v0 (A := fun u_o => Fw W g u_o ∧ Asd u_o) (pa_185 hg_o hA_o rfl (Fw_w h1773_o rfl (hU_o 217 _ rfl))) (fun s5 hp1774_o => ?_)
          have hq1775_o : RF s5 := RF_fw hg_o hp1774_o.1
          have hm1776_o : gI s5 218 4 ≤ 6 := by rw [hp1774_o.1.2.2 218 4 (Nat.lt_of_lt_of_le (by decide) hp1774_o.1.1.1) hw4_o]; exact hm_o
          refine gQ_v1 (A := Fw msd s5) (om_202 hq1775_o id_U hm1776_o rfl rfl (Fw_rf (Fw_232 hp1774_o.1))) (fun v8 s7 h1777_o => ?_)
          refine gQ_ite ?_ ?_
          · refine gQ_v1 (A := Fw msd s5) (om_156 hq1775_o (mqd_o id_U) rfl h1777_o) (fun v10 s9 h1778_o => ?_)
            unfold fb_219_113
            refine gQ_v0 (A := Fw mss s5) (pa_186 hq1775_o hp1774_o.2 rfl h1778_o) (fun s11 h1779_o => ?_)
            exact gQ_ret (Fw_tr hp1774_o.1 h1779_o hU_o)
          · refine gQ_ite ?_ ?_
            · refine gQ_v1 (A := Fw msd s5) (om_156 hq1775_o (mqd_o id_U) rfl h1777_o) (fun v14 s13 h1780_o => ?_)
              unfold fb_219_113
              refine gQ_v0 (A := Fw mss s5) (pa_186 hq1775_o hp1774_o.2 rfl h1780_o) (fun s11 h1781_o => ?_)
              exact gQ_ret (Fw_tr hp1774_o.1 h1781_o hU_o)
            · refine gQ_ite ?_ ?_
              · refine gQ_v1 (A := Fw msd s5) (om_156 hq1775_o (mqd_o id_U) rfl h1777_o) (fun v16 s15 h1782_o => ?_)
                unfold fb_219_113
                refine gQ_v0 (A := Fw mss s5) (pa_186 hq1775_o hp1774_o.2 rfl h1782_o) (fun s11 h1783_o => ?_)
                exact gQ_ret (Fw_tr hp1774_o.1 h1783_o hU_o)
              · refine gQ_v1 (A := Fw msd s5) (om_156 hq1775_o (mqd_o id_U) rfl h1777_o) (fun v18 s17 h1784_o => ?_)
                unfold fb_219_113
                refine gQ_v0 (A := Fw mss s5) (pa_186 hq1775_o hp1774_o.2 rfl h1784_o) (fun s11 h1785_o => ?_)
                exact gQ_ret (Fw_tr hp1774_o.1 h1785_o hU_o)
      · unfold fb_219_42
        dsimp only
        refine gQ_ite ?_ ?_
        · exact gQ_ret (Fw_w h1773_o rfl (hU_o 217 _ rfl))
        · refine gQ_v0 (A := fun u_o => Fw W g u_o ∧ Asd u_o) (pa_185 hg_o hA_o rfl (Fw_w h1773_o rfl (hU_o 217 _ rfl))) (fun s5 hp1786_o => ?_)
          have hq1787_o : RF s5 := RF_fw hg_o hp1786_o.1
          have hm1788_o : gI s5 218 4 ≤ 6 := by rw [hp1786_o.1.2.2 218 4 (Nat.lt_of_lt_of_le (by decide) hp1786_o.1.1.1) hw4_o]; exact hm_o
          refine gQ_v1 (A := Fw msd s5) (om_202 hq1787_o id_U hm1788_o rfl rfl (Fw_rf (Fw_232 hp1786_o.1))) (fun v8 s7 h1789_o => ?_)
          refine gQ_ite ?_ ?_
          · refine gQ_v1 (A := Fw msd s5) (om_156 hq1787_o (mqd_o id_U) rfl h1789_o) (fun v10 s9 h1790_o => ?_)
            unfold fb_219_113
            refine gQ_v0 (A := Fw mss s5) (pa_186 hq1787_o hp1786_o.2 rfl h1790_o) (fun s11 h1791_o => ?_)
            exact gQ_ret (Fw_tr hp1786_o.1 h1791_o hU_o)
          · refine gQ_ite ?_ ?_
            · refine gQ_v1 (A := Fw msd s5) (om_156 hq1787_o (mqd_o id_U) rfl h1789_o) (fun v14 s13 h1792_o => ?_)
              unfold fb_219_113
              refine gQ_v0 (A := Fw mss s5) (pa_186 hq1787_o hp1786_o.2 rfl h1792_o) (fun s11 h1793_o => ?_)
              exact gQ_ret (Fw_tr hp1786_o.1 h1793_o hU_o)
            · refine gQ_ite ?_ ?_
              · refine gQ_v1 (A := Fw msd s5) (om_156 hq1787_o (mqd_o id_U) rfl h1789_o) (fun v16 s15 h1794_o => ?_)
                unfold fb_219_113
                refine gQ_v0 (A := Fw mss s5) (pa_186 hq1787_o hp1786_o.2 rfl h1794_o) (fun s11 h1795_o => ?_)
                exact gQ_ret (Fw_tr hp1786_o.1 h1795_o hU_o)
              · refine gQ_v1 (A := Fw msd s5) (om_156 hq1787_o (mqd_o id_U) rfl h1789_o) (fun v18 s17 h1796_o => ?_)
                unfold fb_219_113
                refine gQ_v0 (A := Fw mss s5) (pa_186 hq1787_o hp1786_o.2 rfl h1796_o) (fun s11 h1797_o => ?_)
                exact gQ_ret (Fw_tr hp1786_o.1 h1797_o hU_o)

theorem om_220 {W : Nat → Nat → Bool} {g s : gS} {a0 : Nat} {a1 : Int} (hg_o : RF g) (hU_o : ∀ a k, mss a k = true → W a k = true)  (hA_o : ∀ k, W 220 k = true) (hm_o : gI g 218 4 ≤ 6) (hw4_o : W 218 4 = false) (ea0_o : a0 = 217) (h_o : Fw W g s) : gQ (f_220 a0 a1 s) (fun r => Fw W g r.2.2.2) := by
  subst ea0_o
  unfold f_220
  refine gQ_v1 (A := Fw W g) (om_150 hg_o hU_o  h_o) (fun v2 s1_l h1798_o => ?_)
  refine gQ_ite ?_ ?_
  · unfold fb_220_17
    dsimp only
    refine gQ_ite ?_ ?_
    · exact gQ_ret (Fw_w h1798_o rfl (hU_o 217 _ rfl))
    · refine gQ_v0 (A := fun u_o => Fw W g u_o ∧ Asd u_o) (pa_185 hg_o hA_o rfl (Fw_w h1798_o rfl (hU_o 217 _ rfl))) (fun s5 hp1799_o => ?_)
      have hq1800_o : RF s5 := RF_fw hg_o hp1799_o.1
      have hm1801_o : gI s5 218 4 ≤ 6 := by rw [hp1799_o.1.2.2 218 4 (Nat.lt_of_lt_of_le (by decide) hp1799_o.1.1.1) hw4_o]; exact hm_o
      refine gQ_v1 (A := Fw msd s5) (om_202 hq1800_o id_U hm1801_o rfl rfl (Fw_rf (Fw_232 hp1799_o.1))) (fun v8 s7 h1802_o => ?_)
      refine gQ_v0 (A := Fw mss s5) (pa_186 hq1800_o hp1799_o.2 rfl h1802_o) (fun s10 h1803_o => ?_)
      exact gQ_ret (Fw_tr hp1799_o.1 h1803_o hU_o)
  · unfold fb_220_17
    dsimp only
    refine gQ_ite ?_ ?_
    · exact gQ_ret (Fw_w h1798_o rfl (hU_o 217 _ rfl))
    · refine gQ_v0 (A := fun u_o => Fw W g u_o ∧ Asd u_o) (pa_185 hg_o hA_o rfl (Fw_w h1798_o rfl (hU_o 217 _ rfl))) (fun s5 hp1804_o => ?_)
      have hq1805_o : RF s5 := RF_fw hg_o hp1804_o.1
      have hm1806_o : gI s5 218 4 ≤ 6 := by rw [hp1804_o.1.2.2 218 4 (Nat.lt_of_lt_of_le (by decide) hp1804_o.1.1.1) hw4_o]; exact hm_o
      refine gQ_v1 (A := Fw msd s5) (om_202 hq1805_o id_U hm1806_o rfl rfl (Fw_rf (Fw_232 hp1804_o.1))) (fun v8 s7 h1807_o => ?_)
      refine gQ_v0 (A := Fw mss s5) (pa_186 hq1805_o hp1804_o.2 rfl h1807_o) (fun s10 h1808_o => ?_)
      exact gQ_ret (Fw_tr hp1804_o.1 h1808_o hU_o)

theorem om_221 {W : Nat → Nat → Bool} {g s : gS} {a0 : Nat} {a1 : Int} (hg_o : RF g) (hU_o : ∀ a k, mss a k = true → W a k = true)  (hA_o : ∀ k, W 220 k = true) (hm_o : gI g 218 4 ≤ 6) (hw4_o : W 218 4 = false) (ea0_o : a0 = 217) (h_o : Fw W g s) : gQ (f_221 a0 a1 s) (fun r => Fw W g r.2.2.2) := by
  subst ea0_o
  unfold f_221
  refine gQ_v1 (A := Fw W g) (om_150 hg_o hU_o  h_o) (fun v2 s1_l h1809_o => ?_)
  refine gQ_ite ?_ ?_
  · unfold fb_221_17
    dsimp only
    refine gQ_ite ?_ ?_
    · exact gQ_ret (Fw_w h1809_o rfl (hU_o 217 _ rfl))
    · refine gQ_v0 (A := fun u_o => Fw W g u_o ∧ Asd u_o) (pa_185 hg_o hA_o rfl (Fw_w h1809_o rfl (hU_o 217 _ rfl))) (fun s5 hp1810_o => ?_)
      have hq1811_o : RF s5 := RF_fw hg_o hp1810_o.1
      have hm1812_o : gI s5 218 4 ≤ 6 := by rw [hp1810_o.1.2.2 218 4 (Nat.lt_of_lt_of_le (by decide) hp1810_o.1.1.1) hw4_o]; exact hm_o
      refine gQ_v1 (A := Fw msd s5) (om_202 hq1811_o id_U hm1812_o rfl rfl (Fw_rf (Fw_232 hp1810_o.1))) (fun v8 s7 h1813_o => ?_)
      refine gQ_v0 (A := Fw mss s5) (pa_186 hq1811_o hp1810_o.2 rfl h1813_o) (fun s10 h1814_o => ?_)
      exact gQ_ret (Fw_tr hp1810_o.1 h1814_o hU_o)
  · unfold fb_221_17
    dsimp only
    refine gQ_ite ?_ ?_
    · exact gQ_ret (Fw_w h1809_o rfl (hU_o 217 _ rfl))
    · refine gQ_v0 (A := fun u_o => Fw W g u_o ∧ Asd u_o) (pa_185 hg_o hA_o rfl (Fw_w h1809_o rfl (hU_o 217 _ rfl))) (fun s5 hp1815_o => ?_)
      have hq1816_o : RF s5 := RF_fw hg_o hp1815_o.1
      have hm1817_o : gI s5 218 4 ≤ 6 := by rw [hp1815_o.1.2.2 218 4 (Nat.lt_of_lt_of_le (by decide) hp1815_o.1.1.1) hw4_o]; exact hm_o
      refine gQ_v1 (A := Fw msd s5) (om_202 hq1816_o id_U hm1817_o rfl rfl (Fw_rf (Fw_232 hp1815_o.1))) (fun v8 s7 h1818_o => ?_)
      refine gQ_v0 (A := Fw mss s5) (pa_186 hq1816_o hp1815_o.2 rfl h1818_o) (fun s10 h1819_o => ?_)
      exact gQ_ret (Fw_tr hp1815_o.1 h1819_o hU_o)

theorem om_222 {W : Nat → Nat → Bool} {g s : gS} {a0 : Nat} {a1 : Int} {a2 : Int} (hg_o : RF g) (hU_o : ∀ a k, mss a k = true → W a k = true)  (hA_o : ∀ k, W 220 k = true) (hm_o : gI g 218 4 ≤ 6) (hw4_o : W 218 4 = false) (ea0_o : a0 = 217) (h_o : Fw W g s) : gQ (f_222 a0 a1 a2 s) (fun r => Fw W g r.2.2.2) := by
  subst ea0_o
  unfold f_222
  refine gQ_v1 (A := Fw W g) (om_165 hg_o hU_o rfl h_o) (fun v2 s1_l h1820_o => ?_)
  refine gQ_ite ?_ ?_
  · exact gQ_ret h1820_o
  · refine gQ_v0 (A := fun u_o => Fw W g u_o ∧ Asd u_o) (pa_185 hg_o hA_o rfl h1820_o) (fun s4_l hp1821_o => ?_)
    have hq1822_o : RF s4_l := RF_fw hg_o hp1821_o.1
    have hm1823_o : gI s4_l 218 4 ≤ 6 := by rw [hp1821_o.1.2.2 218 4 (Nat.lt_of_lt_of_le (by decide) hp1821_o.1.1.1) hw4_o]; exact hm_o
    refine gQ_loop (fun y_l => y_l.1 = 217 ∧ Fw msd s4_l (y_l.2.2.2.2.2)) (fun y_l hy_o => ?_) ⟨rfl, (Fw_rf (Fw_232 hp1821_o.1))⟩
    obtain ⟨x1824_o, x1825_o, x1826_o, x1827_o, x1828_o, x1829_o⟩ := y_l
    obtain ⟨e1831_o, h1830_o⟩ := hy_o
    dsimp only at e1831_o h1830_o
    subst e1831_o
    show gQ (sb_222_19 217 x1825_o x1826_o x1827_o x1828_o x1829_o) _
    unfold sb_222_19
    refine gQ_ite ?_ ?_
    · refine gQ_map ?_
      unfold fb_222_89
      refine gQ_v0 (A := Fw mss s4_l) (pa_186 hq1822_o hp1821_o.2 rfl h1830_o) (fun s6_l h1832_o => ?_)
      exact gQ_ret (Fw_tr hp1821_o.1 h1832_o hU_o)
    · refine gQ_ite ?_ ?_
      · refine gQ_ite ?_ ?_
        · refine gQ_v1 (A := Fw msd s4_l) (om_156 hq1822_o (mqd_o id_U) rfl h1830_o) (fun v9 s8 h1833_o => ?_)
          refine gQ_ite ?_ ?_
          · unfold fb_222_72
            unfold fb_222_75
            refine gQ_v1 (A := Fw msd s4_l) (om_202 hq1822_o id_U hm1823_o rfl rfl h1833_o) (fun v11 s10 h1834_o => ?_)
            exact gQ_ret ⟨rfl, h1834_o⟩
          · unfold fb_222_75
            refine gQ_v1 (A := Fw msd s4_l) (om_202 hq1822_o id_U hm1823_o rfl rfl h1833_o) (fun v11 s10 h1835_o => ?_)
            exact gQ_ret ⟨rfl, h1835_o⟩
        · refine gQ_v1 (A := Fw msd s4_l) (om_165 hq1822_o (mqd_o id_U) rfl h1830_o) (fun v13 s12 h1836_o => ?_)
          refine gQ_ite ?_ ?_
          · unfold fb_222_75
            refine gQ_v1 (A := Fw msd s4_l) (om_202 hq1822_o id_U hm1823_o rfl rfl h1836_o) (fun v11 s10 h1837_o => ?_)
            exact gQ_ret ⟨rfl, h1837_o⟩
          · refine gQ_v1 (A := Fw msd s4_l) (om_156 hq1822_o (mqd_o id_U) rfl h1836_o) (fun v16 s15 h1838_o => ?_)
            refine gQ_ite ?_ ?_
            · unfold fb_222_75
              refine gQ_v1 (A := Fw msd s4_l) (om_202 hq1822_o id_U hm1823_o rfl rfl h1838_o) (fun v11 s10 h1839_o => ?_)
              exact gQ_ret ⟨rfl, h1839_o⟩
            · unfold fb_222_72
              unfold fb_222_75
              refine gQ_v1 (A := Fw msd s4_l) (om_202 hq1822_o id_U hm1823_o rfl rfl h1838_o) (fun v11 s10 h1840_o => ?_)
              exact gQ_ret ⟨rfl, h1840_o⟩
      · refine gQ_map ?_
        unfold fb_222_89
        refine gQ_v0 (A := Fw mss s4_l) (pa_186 hq1822_o hp1821_o.2 rfl h1830_o) (fun s6_l h1841_o => ?_)
        exact gQ_ret (Fw_tr hp1821_o.1 h1841_o hU_o)

theorem om_223 {W : Nat → Nat → Bool} {g s : gS} {a0 : Nat} {a1 : Int} (hg_o : RF g) (hU_o : ∀ a k, mss a k = true → W a k = true)  (hA_o : ∀ k, W 220 k = true) (hm_o : gI g 218 4 ≤ 6) (hw4_o : W 218 4 = false) (ea0_o : a0 = 217) (h_o : Fw W g s) : gQ (f_223 a0 a1 s) (fun r => Fw W g r.2.2.2) := by
  subst ea0_o
  unfold f_223
  refine gQ_v1 (A := Fw W g) (om_162 hg_o hU_o rfl h_o) (fun v2 s1_l h1842_o => ?_)
  refine gQ_ite ?_ ?_
  · unfold fb_223_14
    dsimp only
    refine gQ_ite ?_ ?_
    · exact gQ_ret (Fw_w h1842_o rfl (hU_o 217 _ rfl))
    · refine gQ_v1 (A := Fw W g) (om_222 hg_o hU_o hA_o hm_o hw4_o rfl (Fw_w h1842_o rfl (hU_o 217 _ rfl))) (fun v6 s5 h1843_o => ?_)
      exact gQ_ret h1843_o
  · unfold fb_223_14
    dsimp only
    refine gQ_ite ?_ ?_
    · exact gQ_ret (Fw_w h1842_o rfl (hU_o 217 _ rfl))
    · refine gQ_v1 (A := Fw W g) (om_222 hg_o hU_o hA_o hm_o hw4_o rfl (Fw_w h1842_o rfl (hU_o 217 _ rfl))) (fun v6 s5 h1844_o => ?_)
      exact gQ_ret h1844_o

theorem om_224 {W : Nat → Nat → Bool} {g s : gS} {a0 : Nat} {a1 : Int} (hg_o : RF g) (hU_o : ∀ a k, mss a k = true → W a k = true)  (hA_o : ∀ k, W 220 k = true) (hm_o : gI g 218 4 ≤ 6) (hw4_o : W 218 4 = false) (ea0_o : a0 = 217) (h_o : Fw W g s) : gQ (f_224 a0 a1 s) (fun r => Fw W g r.2.2.2) := by
  subst ea0_o
  unfold f_224
  refine gQ_v1 (A := Fw W g) (om_162 hg_o hU_o rfl h_o) (fun v2 s1_l h1845_o => ?_)
  refine gQ_ite ?_ ?_
  · unfold fb_224_14
    dsimp only
    refine gQ_ite ?_ ?_
    · exact gQ_ret (Fw_w h1845_o rfl (hU_o 217 _ rfl))
    · refine gQ_v1 (A := Fw W g) (om_222 hg_o hU_o hA_o hm_o hw4_o rfl (Fw_w h1845_o rfl (hU_o 217 _ rfl))) (fun v6 s5 h1846_o => ?_)
      exact gQ_ret h1846_o
  · unfold fb_224_14
    dsimp only
    refine gQ_ite ?_ ?_
    · exact gQ_ret (Fw_w h1845_o rfl (hU_o 217 _ rfl))
    · refine gQ_v1 (A := Fw W g) (om_222 hg_o hU_o hA_o hm_o hw4_o rfl (Fw_w h1845_o rfl (hU_o 217 _ rfl))) (fun v6 s5 h1847_o => ?_)
      exact gQ_ret h1847_o

theorem om_225 {W : Nat → Nat → Bool} {g s : gS} {a0 : Nat} {a1 : Int} (hg_o : RF g) (hU_o : ∀ a k, mss a k = true → W a k = true)  (hA_o : ∀ k, W 220 k = true) (hm_o : gI g 218 4 ≤ 6) (hw4_o : W 218 4 = false) (ea0_o : a0 = 217) (h_o : Fw W g s) : gQ (f_225 a0 a1 s) (fun r => Fw W g r.2.2.2) := by
  subst ea0_o
  unfold f_225
  refine gQ_v0 (A := fun u_o => Fw W g u_o ∧ Asd u_o) (pa_185 hg_o hA_o rfl h_o) (fun s1_l hp1848_o => ?_)
  have hq1849_o : RF s1_l := RF_fw hg_o hp1848_o.1
  have hm1850_o : gI s1_l 218 4 ≤ 6 := by rw [hp1848_o.1.2.2 218 4 (Nat.lt_of_lt_of_le (by decide) hp1848_o.1.1.1) hw4_o]; exact hm_o
  refine gQ_loop (fun y_l => y_l.1 = 217 ∧ Fw msd s1_l (y_l.2.2.2)) (fun y_l hy_o => ?_) ⟨rfl, (Fw_rf (Fw_232 hp1848_o.1))⟩
  obtain ⟨x1851_o, x1852_o, x1853_o, x1854_o⟩ := y_l
  obtain ⟨e1856_o, h1855_o⟩ := hy_o
  dsimp only at e1856_o h1855_o
  subst e1856_o
  show gQ (sb_225_6 217 x1852_o x1853_o x1854_o) _
  unfold sb_225_6
  dsimp only
  refine gQ_ite ?_ ?_
  · refine gQ_chk2 (fun ha1857_o hb1858_o => ?_)
    refine gQ_v1 (A := Fw msd s1_l) (om_202 hq1849_o id_U hm1850_o rfl rfl (Fw_w h1855_o (fr_r h1855_o rfl (rr_217_18 hq1849_o)) (id_U 224 _ rfl))) (fun v5 s4_l h1859_o => ?_)
    exact gQ_ret ⟨rfl, h1859_o⟩
  · refine gQ_map ?_
    refine gQ_v0 (A := Fw mss s1_l) (pa_186 hq1849_o hp1848_o.2 rfl h1855_o) (fun s6_l h1860_o => ?_)
    refine gQ_v1 (A := Fw W g) (om_156 hg_o hU_o rfl (Fw_tr hp1848_o.1 h1860_o hU_o)) (fun v9 s8 h1861_o => ?_)
    refine gQ_v1 (A := Fw W g) (om_156 hg_o hU_o rfl h1861_o) (fun v11 s10 h1862_o => ?_)
    refine gQ_loop (fun y_l => y_l.1 = 217 ∧ Fw W g (y_l.2.2.2.2)) (fun y_l hy_o => ?_) ⟨rfl, h1862_o⟩
    obtain ⟨x1863_o, x1864_o, x1865_o, x1866_o, x1867_o⟩ := y_l
    obtain ⟨e1869_o, h1868_o⟩ := hy_o
    dsimp only at e1869_o h1868_o
    subst e1869_o
    show gQ (sb_225_59 217 x1864_o x1865_o x1866_o x1867_o) _
    unfold sb_225_59
    dsimp only
    refine gQ_ite ?_ ?_
    · refine gQ_chk2 (fun ha1870_o hb1871_o => ?_)
      refine gQ_ite ?_ ?_
      · unfold fb_225_90
        dsimp only
        refine gQ_ite ?_ ?_
        · refine gQ_v1 (A := Fw W g) (om_155 hg_o hU_o rfl (Fw_w h1868_o (fr_r h1868_o rfl (rr_217_21 hg_o)) (hU_o 227 _ rfl))) (fun v14 s13 h1872_o => ?_)
          refine gQ_ite ?_ ?_
          · unfold fb_225_130
            dsimp only
            refine gQ_chk2 (fun ha1873_o hb1874_o => ?_)
            refine gQ_chk2 (fun ha1875_o hb1876_o => ?_)
            exact gQ_ret ⟨rfl, (Fw_w (Fw_w h1872_o (fr_r h1872_o rfl (rr_217_19 hg_o)) (hU_o 225 _ rfl)) (fr_r (Fw_w h1872_o (fr_r h1872_o rfl (rr_217_19 hg_o)) (hU_o 225 _ rfl)) rfl (rr_217_20 hg_o)) (hU_o 226 _ rfl))⟩
          · refine gQ_v1 (A := Fw W g) (om_155 hg_o hU_o rfl h1872_o) (fun v18 s17 h1877_o => ?_)
            refine gQ_chk2 (fun ha1878_o hb1879_o => ?_)
            unfold fb_225_130
            dsimp only
            refine gQ_chk2 (fun ha1880_o hb1881_o => ?_)
            refine gQ_chk2 (fun ha1882_o hb1883_o => ?_)
            exact gQ_ret ⟨rfl, (Fw_w (Fw_w (Fw_w h1877_o (fr_r h1872_o rfl (rr_217_21 hg_o)) (hU_o 227 _ rfl)) (fr_r (Fw_w h1877_o (fr_r h1872_o rfl (rr_217_21 hg_o)) (hU_o 227 _ rfl)) rfl (rr_217_19 hg_o)) (hU_o 225 _ rfl)) (fr_r (Fw_w (Fw_w h1877_o (fr_r h1872_o rfl (rr_217_21 hg_o)) (hU_o 227 _ rfl)) (fr_r (Fw_w h1877_o (fr_r h1872_o rfl (rr_217_21 hg_o)) (hU_o 227 _ rfl)) rfl (rr_217_19 hg_o)) (hU_o 225 _ rfl)) rfl (rr_217_20 hg_o)) (hU_o 226 _ rfl))⟩
        · unfold fb_225_130
          dsimp only
          refine gQ_chk2 (fun ha1884_o hb1885_o => ?_)
          refine gQ_chk2 (fun ha1886_o hb1887_o => ?_)
          exact gQ_ret ⟨rfl, (Fw_w (Fw_w (Fw_w h1868_o (fr_r h1868_o rfl (rr_217_21 hg_o)) (hU_o 227 _ rfl)) (fr_r (Fw_w h1868_o (fr_r h1868_o rfl (rr_217_21 hg_o)) (hU_o 227 _ rfl)) rfl (rr_217_19 hg_o)) (hU_o 225 _ rfl)) (fr_r (Fw_w (Fw_w h1868_o (fr_r h1868_o rfl (rr_217_21 hg_o)) (hU_o 227 _ rfl)) (fr_r (Fw_w h1868_o (fr_r h1868_o rfl (rr_217_21 hg_o)) (hU_o 227 _ rfl)) rfl (rr_217_19 hg_o)) (hU_o 225 _ rfl)) rfl (rr_217_20 hg_o)) (hU_o 226 _ rfl))⟩
      · unfold fb_225_90
        dsimp only
        refine gQ_ite ?_ ?_
        · refine gQ_v1 (A := Fw W g) (om_155 hg_o hU_o rfl (Fw_w h1868_o (fr_r h1868_o rfl (rr_217_21 hg_o)) (hU_o 227 _ rfl))) (fun v14 s13 h1888_o => ?_)
          refine gQ_ite ?_ ?_
          · unfold fb_225_130
            dsimp only
            refine gQ_chk2 (fun ha1889_o hb1890_o => ?_)
            refine gQ_chk2 (fun ha1891_o hb1892_o => ?_)
            exact gQ_ret ⟨rfl, (Fw_w (Fw_w h1888_o (fr_r h1888_o rfl (rr_217_19 hg_o)) (hU_o 225 _ rfl)) (fr_r (Fw_w h1888_o (fr_r h1888_o rfl (rr_217_19 hg_o)) (hU_o 225 _ rfl)) rfl (rr_217_20 hg_o)) (hU_o 226 _ rfl))⟩
          · refine gQ_v1 (A := Fw W g) (om_155 hg_o hU_o rfl h1888_o) (fun v18 s17 h1893_o => ?_)
            refine gQ_chk2 (fun ha1894_o hb1895_o => ?_)
            unfold fb_225_130
            dsimp only
            refine gQ_chk2 (fun ha1896_o hb1897_o => ?_)
            refine gQ_chk2 (fun ha1898_o hb1899_o => ?_)
            exact gQ_ret ⟨rfl, (Fw_w (Fw_w (Fw_w h1893_o (fr_r h1888_o rfl (rr_217_21 hg_o)) (hU_o 227 _ rfl)) (fr_r (Fw_w h1893_o (fr_r h1888_o rfl (rr_217_21 hg_o)) (hU_o 227 _ rfl)) rfl (rr_217_19 hg_o)) (hU_o 225 _ rfl)) (fr_r (Fw_w (Fw_w h1893_o (fr_r h1888_o rfl (rr_217_21 hg_o)) (hU_o 227 _ rfl)) (fr_r (Fw_w h1893_o (fr_r h1888_o rfl (rr_217_21 hg_o)) (hU_o 227 _ rfl)) rfl (rr_217_19 hg_o)) (hU_o 225 _ rfl)) rfl (rr_217_20 hg_o)) (hU_o 226 _ rfl))⟩
        · unfold fb_225_130
          dsimp only
          refine gQ_chk2 (fun ha1900_o hb1901_o => ?_)
          refine gQ_chk2 (fun ha1902_o hb1903_o => ?_)
          exact gQ_ret ⟨rfl, (Fw_w (Fw_w (Fw_w h1868_o (fr_r h1868_o rfl (rr_217_21 hg_o)) (hU_o 227 _ rfl)) (fr_r (Fw_w h1868_o (fr_r h1868_o rfl (rr_217_21 hg_o)) (hU_o 227 _ rfl)) rfl (rr_217_19 hg_o)) (hU_o 225 _ rfl)) (fr_r (Fw_w (Fw_w h1868_o (fr_r h1868_o rfl (rr_217_21 hg_o)) (hU_o 227 _ rfl)) (fr_r (Fw_w h1868_o (fr_r h1868_o rfl (rr_217_21 hg_o)) (hU_o 227 _ rfl)) rfl (rr_217_19 hg_o)) (hU_o 225 _ rfl)) rfl (rr_217_20 hg_o)) (hU_o 226 _ rfl))⟩
    · refine gQ_map ?_
      refine gQ_loop (fun y_l => y_l.1 = 217 ∧ Fw W g (y_l.2.2)) (fun y_l hy_o => ?_) ⟨rfl, h1868_o⟩
      obtain ⟨x1904_o, x1905_o, x1906_o⟩ := y_l
      obtain ⟨e1908_o, h1907_o⟩ := hy_o
      dsimp only at e1908_o h1907_o
      subst e1908_o
      show gQ (sb_225_155 217 x1905_o x1906_o) _
      unfold sb_225_155
      dsimp only
      refine gQ_ite ?_ ?_
      · refine gQ_chk2 (fun ha1909_o hb1910_o => ?_)
        exact gQ_ret ⟨rfl, (Fw_w h1907_o (fr_r h1907_o rfl (rr_217_22 hg_o)) (hU_o 228 _ rfl))⟩
      · refine gQ_map ?_
        exact gQ_ret h1907_o

theorem om_254 {W : Nat → Nat → Bool} {g s : gS} {a0 : Nat} {a1 : Int} {a2 : Int} (hg_o : RF g) (hU_o : ∀ a k, mss a k = true → W a k = true)  (hA_o : ∀ k, W 220 k = true) (hm_o : gI g 218 4 ≤ 6) (hw4_o : W 218 4 = false) (ea0_o : a0 = 217) (h_o : Fw W g s) : gQ (f_254 a0 a1 a2 s) (fun r => Fw W g r.2.2.2) := by
  subst ea0_o
  unfold f_254
  refine gQ_v1 (A := Fw W g) (om_150 hg_o hU_o  h_o) (fun v2 s1_l h1911_o => ?_)
  refine gQ_ite ?_ ?_
  · unfold fb_254_17
    dsimp only
    refine gQ_ite ?_ ?_
    · exact gQ_ret (Fw_w h1911_o rfl (hU_o 217 _ rfl))
    · refine gQ_v0 (A := fun u_o => Fw W g u_o ∧ Asd u_o) (pa_185 hg_o hA_o rfl (Fw_w h1911_o rfl (hU_o 217 _ rfl))) (fun s5 hp1912_o => ?_)
      have hq1913_o : RF s5 := RF_fw hg_o hp1912_o.1
      have hm1914_o : gI s5 218 4 ≤ 6 := by rw [hp1912_o.1.2.2 218 4 (Nat.lt_of_lt_of_le (by decide) hp1912_o.1.1.1) hw4_o]; exact hm_o
      refine gQ_v1 (A := Fw msd s5) (om_202 hq1913_o id_U hm1914_o rfl rfl (Fw_rf (Fw_232 hp1912_o.1))) (fun v8 s7 h1915_o => ?_)
      refine gQ_ite ?_ ?_
      · unfold fb_254_62
        refine gQ_v0 (A := Fw mss s5) (pa_186 hq1913_o hp1912_o.2 rfl h1915_o) (fun s9 h1916_o => ?_)
        exact gQ_ret (Fw_tr hp1912_o.1 h1916_o hU_o)
      · refine gQ_v1 (A := Fw msd s5) (om_252 hq1913_o (mqd_o id_U) rfl h1915_o) (fun v12 s11 h1917_o => ?_)
        refine gQ_v1 (A := Fw msd s5) (om_154 hq1913_o (mqd_o id_U)  h1917_o) (fun v14 s13 h1918_o => ?_)
        unfold fb_254_62
        refine gQ_v0 (A := Fw mss s5) (pa_186 hq1913_o hp1912_o.2 rfl h1918_o) (fun s9 h1919_o => ?_)
        exact gQ_ret (Fw_tr hp1912_o.1 h1919_o hU_o)
  · unfold fb_254_17
    dsimp only
    refine gQ_ite ?_ ?_
    · exact gQ_ret (Fw_w h1911_o rfl (hU_o 217 _ rfl))
    · refine gQ_v0 (A := fun u_o => Fw W g u_o ∧ Asd u_o) (pa_185 hg_o hA_o rfl (Fw_w h1911_o rfl (hU_o 217 _ rfl))) (fun s5 hp1920_o => ?_)
      have hq1921_o : RF s5 := RF_fw hg_o hp1920_o.1
      have hm1922_o : gI s5 218 4 ≤ 6 := by rw [hp1920_o.1.2.2 218 4 (Nat.lt_of_lt_of_le (by decide) hp1920_o.1.1.1) hw4_o]; exact hm_o
      refine gQ_v1 (A := Fw msd s5) (om_202 hq1921_o id_U hm1922_o rfl rfl (Fw_rf (Fw_232 hp1920_o.1))) (fun v8 s7 h1923_o => ?_)
      refine gQ_ite ?_ ?_
      · unfold fb_254_62
        refine gQ_v0 (A := Fw mss s5) (pa_186 hq1921_o hp1920_o.2 rfl h1923_o) (fun s9 h1924_o => ?_)
        exact gQ_ret (Fw_tr hp1920_o.1 h1924_o hU_o)
      · refine gQ_v1 (A := Fw msd s5) (om_252 hq1921_o (mqd_o id_U) rfl h1923_o) (fun v12 s11 h1925_o => ?_)
        refine gQ_v1 (A := Fw msd s5) (om_154 hq1921_o (mqd_o id_U)  h1925_o) (fun v14 s13 h1926_o => ?_)
        unfold fb_254_62
        refine gQ_v0 (A := Fw mss s5) (pa_186 hq1921_o hp1920_o.2 rfl h1926_o) (fun s9 h1927_o => ?_)
        exact gQ_ret (Fw_tr hp1920_o.1 h1927_o hU_o)

theorem om_228 {W : Nat → Nat → Bool} {g s : gS} {a0 : Nat} {a1 : Int} {a2 : Int} {a3 : Int} {a4 : Int} (hg_o : RF g) (hU_o : ∀ a k, mss a k = true → W a k = true) (ea0_o : a0 = 217) (h_o : Fw W g s) : gQ (f_228 a0 a1 a2 a3 a4 s) (fun r => Fw W g r.2.2.2) := by
  subst ea0_o
  unfold f_228
  refine gQ_chk2 (fun ha1928_o hb1929_o => ?_)
  refine gQ_v1 (A := Fw W g) (om_151 hg_o hU_o  h_o) (fun v2 s1_l h1930_o => ?_)
  refine gQ_chk2 (fun ha1931_o hb1932_o => ?_)
  refine gQ_chk2 (fun ha1933_o hb1934_o => ?_)
  refine gQ_chk2 (fun ha1935_o hb1936_o => ?_)
  refine gQ_v1 (A := Fw W g) (om_151 hg_o hU_o  h1930_o) (fun v4_l s3_l h1937_o => ?_)
  refine gQ_v1 (A := Fw W g) (om_197 hg_o hU_o rfl h1937_o) (fun v6 s5 h1938_o => ?_)
  refine gQ_v1 (A := Fw W g) (om_151 hg_o hU_o  h1938_o) (fun v8 s7 h1939_o => ?_)
  refine gQ_v1 (A := Fw W g) (om_152 hg_o hU_o  h1939_o) (fun v10 s9 h1940_o => ?_)
  exact gQ_ret h1940_o

theorem om_227s {W : Nat → Nat → Bool} {g s : gS} {r_226 : Nat → Int → Int → Int → Int → gS → Option gO} {a0 : Nat} {a1 : Int} {a2 : Int} {a3 : Int} {a4 : Int} {a5 : Int} (hg_o : RF g) (hU_o : ∀ a k, mss a k = true → W a k = true) (ea0_o : a0 = 217) (hr_226 : ∀ {a1 a2 a3 a4 : Int} {s : gS}, Fw W g s → gQ (r_226 217 a1 a2 a3 a4 s) (fun r => Fw W g r.2.2.2)) (h_o : Fw W g s) : gQ (fo_227 r_226 a0 a1 a2 a3 a4 a5 s) (fun r => Fw W g r.2.2.2) := by
  subst ea0_o
  unfold fo_227
  refine gQ_v1 (A := Fw W g) (om_151 hg_o hU_o  h_o) (fun v2 s1_l h1941_o => ?_)
  refine gQ_v1 (A := Fw W g) (om_228 hg_o hU_o rfl h1941_o) (fun v4_l s3_l h1942_o => ?_)
  refine gQ_ite ?_ ?_
  · exact gQ_ret h1942_o
  · refine gQ_v1 (A := Fw W g) (hr_226 h1942_o) (fun v6 s5 h1943_o => ?_)
    exact gQ_ret h1943_o

theorem om_226s {W : Nat → Nat → Bool} {g s : gS} {r_227 : Nat → Int → Int → Int → Int → Int → gS → Option gO} {a0 : Nat} {a1 : Int} {a2 : Int} {a3 : Int} {a4 : Int} (hg_o : RF g) (hU_o : ∀ a k, mss a k = true → W a k = true) (ea0_o : a0 = 217) (hr_227 : ∀ {a1 a2 a3 a4 a5 : Int} {s : gS}, Fw W g s → gQ (r_227 217 a1 a2 a3 a4 a5 s) (fun r => Fw W g r.2.2.2)) (h_o : Fw W g s) : gQ (fo_226 r_227 a0 a1 a2 a3 a4 s) (fun r => Fw W g r.2.2.2) := by
  subst ea0_o
  unfold fo_226
  dsimp only
  refine gQ_ite ?_ ?_
  · exact gQ_ret h_o
  · refine gQ_chk2 (fun ha1944_o hb1945_o => ?_)
    refine gQ_ite ?_ ?_
    · refine gQ_loop (fun y_l => y_l.1 = 217 ∧ Fw W g (y_l.2.2.2.2.2.2.2.2)) (fun y_l hy_o => ?_) ⟨rfl, h_o⟩
      obtain ⟨x1946_o, x1947_o, x1948_o, x1949_o, x1950_o, x1951_o, x1952_o, x1953_o, x1954_o⟩ := y_l
      obtain ⟨e1956_o, h1955_o⟩ := hy_o
      dsimp only at e1956_o h1955_o
      subst e1956_o
      show gQ (sb_226_48 r_227 217 x1947_o x1948_o x1949_o x1950_o x1951_o x1952_o x1953_o x1954_o) _
      unfold sb_226_48
      dsimp only
      refine gQ_ite ?_ ?_
      · refine gQ_map ?_
        refine gQ_chk2 (fun ha1957_o hb1958_o => ?_)
        exact gQ_ret (Fw_w h1955_o (fr_r h1955_o rfl (rr_217_22 hg_o)) (hU_o 228 _ rfl))
      · refine gQ_v1 (A := Fw W g) (hr_227 h1955_o) (fun v4_l s3_l h1959_o => ?_)
        refine gQ_v1 (A := Fw W g) (om_152 hg_o hU_o  h1959_o) (fun v6 s5 h1960_o => ?_)
        exact gQ_ret ⟨rfl, h1960_o⟩
    · refine gQ_chk2 (fun ha1961_o hb1962_o => ?_)
      exact gQ_ret h_o

theorem om_226n {W : Nat → Nat → Bool} {g : gS} (hg_o : RF g) (hU_o : ∀ a k, mss a k = true → W a k = true) (n : Nat) : (∀ {a1 a2 a3 a4 : Int} {s : gS}, Fw W g s → gQ (fn_226 n 217 a1 a2 a3 a4 s) (fun r => Fw W g r.2.2.2)) ∧ (∀ {a1 a2 a3 a4 a5 : Int} {s : gS}, Fw W g s → gQ (fn_227 n 217 a1 a2 a3 a4 a5 s) (fun r => Fw W g r.2.2.2)) := by
  induction n with
  | zero => exact ⟨fun _ => gQ_none, fun _ => gQ_none⟩
  | succ n ih_l =>
    exact ⟨fun {a1 a2 a3 a4 s} hh_o => (om_226s hg_o hU_o rfl (fun h_l => ih_l.2 h_l) hh_o : gQ (fo_226 (rg_226 n).2 217 a1 a2 a3 a4 s) _), fun {a1 a2 a3 a4 a5 s} hh_o => (om_227s hg_o hU_o rfl (fun h_l => ih_l.1 h_l) hh_o : gQ (fo_227 (rg_226 n).1 217 a1 a2 a3 a4 a5 s) _)⟩
theorem om_226 {W : Nat → Nat → Bool} {g s : gS} {a0 : Nat} {a1 a2 a3 a4 : Int} (hg_o : RF g) (hU_o : ∀ a k, mss a k = true → W a k = true) (ea0_o : a0 = 217) (h_o : Fw W g s) : gQ (f_226 a0 a1 a2 a3 a4 s) (fun r => Fw W g r.2.2.2) := by
  subst ea0_o
  exact (om_226n hg_o hU_o 64).1 h_o
theorem om_227 {W : Nat → Nat → Bool} {g s : gS} {a0 : Nat} {a1 a2 a3 a4 a5 : Int} (hg_o : RF g) (hU_o : ∀ a k, mss a k = true → W a k = true) (ea0_o : a0 = 217) (h_o : Fw W g s) : gQ (f_227 a0 a1 a2 a3 a4 a5 s) (fun r => Fw W g r.2.2.2) := by
  subst ea0_o
  exact (om_226n hg_o hU_o 64).2 h_o

theorem om_229 {W : Nat → Nat → Bool} {g s : gS} {a0 : Nat} {a1 : Int} {a2 : Int} (hg_o : RF g) (hU_o : ∀ a k, mss a k = true → W a k = true)  (hA_o : ∀ k, W 220 k = true) (hm_o : gI g 218 4 ≤ 6) (hw4_o : W 218 4 = false) (ea0_o : a0 = 217) (h_o : Fw W g s) : gQ (f_229 a0 a1 a2 s) (fun r => Fw W g r.2.2.2) := by
  subst ea0_o
  unfold f_229
  refine gQ_v1 (A := Fw W g) (om_162 hg_o hU_o rfl h_o) (fun v2 s1_l h1963_o => ?_)
  refine gQ_ite ?_ ?_
  · unfold fb_229_33
    dsimp only
    refine gQ_ite ?_ ?_
    · exact gQ_ret (Fw_w h1963_o rfl (hU_o 217 _ rfl))
    · refine gQ_v1 (A := Fw W g) (om_165 hg_o hU_o rfl (Fw_w h1963_o rfl (hU_o 217 _ rfl))) (fun v6 s5 h1964_o => ?_)
      refine gQ_ite ?_ ?_
      · exact gQ_ret h1964_o
      · refine gQ_v0 (A := Fw W g) (om_225 hg_o hU_o hA_o hm_o hw4_o rfl h1964_o) (fun s8 h1965_o => ?_)
        refine gQ_v1 (A := Fw W g) (om_156 hg_o hU_o rfl h1965_o) (fun v11 s10 h1966_o => ?_)
        refine gQ_v1 (A := Fw W g) (om_156 hg_o hU_o rfl h1966_o) (fun v13 s12 h1967_o => ?_)
        refine gQ_ite ?_ ?_
        · refine gQ_v1 (A := Fw W g) (om_226 hg_o hU_o rfl h1967_o) (fun v15 s14 h1968_o => ?_)
          exact gQ_ret h1968_o
        · refine gQ_loop (fun y_l => y_l.1 = 217 ∧ Fw W g (y_l.2.2.2.2.2.2)) (fun y_l hy_o => ?_) ⟨rfl, h1967_o⟩
          obtain ⟨x1969_o, x1970_o, x1971_o, x1972_o, x1973_o, x1974_o, x1975_o⟩ := y_l
          obtain ⟨e1977_o, h1976_o⟩ := hy_o
          dsimp only at e1977_o h1976_o
          subst e1977_o
          show gQ (sb_229_93 217 x1970_o x1971_o x1972_o x1973_o x1974_o x1975_o) _
          unfold sb_229_93
          refine gQ_ite ?_ ?_
          · refine gQ_map ?_
            exact gQ_ret h1976_o
          · refine gQ_loop (fun y_l => y_l.1 = 217 ∧ Fw W g (y_l.2.2.2.2.2.2.2)) (fun y_l hy_o => ?_) ⟨rfl, h1976_o⟩
            obtain ⟨x1978_o, x1979_o, x1980_o, x1981_o, x1982_o, x1983_o, x1984_o, x1985_o⟩ := y_l
            obtain ⟨e1987_o, h1986_o⟩ := hy_o
            dsimp only at e1987_o h1986_o
            subst e1987_o
            show gQ (sb_229_102 217 x1979_o x1980_o x1981_o x1982_o x1983_o x1984_o x1985_o) _
            unfold sb_229_102
            refine gQ_v1 (A := Fw W g) (om_227 hg_o hU_o rfl h1986_o) (fun v17 s16 h1988_o => ?_)
            refine gQ_v1 (A := Fw W g) (om_226 hg_o hU_o rfl h1988_o) (fun v19 s18 h1989_o => ?_)
            refine gQ_ite ?_ ?_
            · refine gQ_map ?_
              refine gQ_ite ?_ ?_
              · refine gQ_map ?_
                exact gQ_ret h1989_o
              · refine gQ_v1 (A := Fw W g) (om_151 hg_o hU_o  h1989_o) (fun v21 s20 h1990_o => ?_)
                refine gQ_v1 (A := Fw W g) (om_228 hg_o hU_o rfl h1990_o) (fun v23 s22 h1991_o => ?_)
                refine gQ_ite ?_ ?_
                · refine gQ_map ?_
                  exact gQ_ret h1991_o
                · exact gQ_ret ⟨rfl, h1991_o⟩
            · exact gQ_ret ⟨rfl, h1989_o⟩
  · refine gQ_ite ?_ ?_
    · unfold fb_229_32
      unfold fb_229_33
      dsimp only
      refine gQ_ite ?_ ?_
      · exact gQ_ret (Fw_w h1963_o rfl (hU_o 217 _ rfl))
      · refine gQ_v1 (A := Fw W g) (om_165 hg_o hU_o rfl (Fw_w h1963_o rfl (hU_o 217 _ rfl))) (fun v6 s5 h1992_o => ?_)
        refine gQ_ite ?_ ?_
        · exact gQ_ret h1992_o
        · refine gQ_v0 (A := Fw W g) (om_225 hg_o hU_o hA_o hm_o hw4_o rfl h1992_o) (fun s8 h1993_o => ?_)
          refine gQ_v1 (A := Fw W g) (om_156 hg_o hU_o rfl h1993_o) (fun v11 s10 h1994_o => ?_)
          refine gQ_v1 (A := Fw W g) (om_156 hg_o hU_o rfl h1994_o) (fun v13 s12 h1995_o => ?_)
          refine gQ_ite ?_ ?_
          · refine gQ_v1 (A := Fw W g) (om_226 hg_o hU_o rfl h1995_o) (fun v15 s14 h1996_o => ?_)
            exact gQ_ret h1996_o
          · refine gQ_loop (fun y_l => y_l.1 = 217 ∧ Fw W g (y_l.2.2.2.2.2.2)) (fun y_l hy_o => ?_) ⟨rfl, h1995_o⟩
            obtain ⟨x1997_o, x1998_o, x1999_o, x2000_o, x2001_o, x2002_o, x2003_o⟩ := y_l
            obtain ⟨e2005_o, h2004_o⟩ := hy_o
            dsimp only at e2005_o h2004_o
            subst e2005_o
            show gQ (sb_229_93 217 x1998_o x1999_o x2000_o x2001_o x2002_o x2003_o) _
            unfold sb_229_93
            refine gQ_ite ?_ ?_
            · refine gQ_map ?_
              exact gQ_ret h2004_o
            · refine gQ_loop (fun y_l => y_l.1 = 217 ∧ Fw W g (y_l.2.2.2.2.2.2.2)) (fun y_l hy_o => ?_) ⟨rfl, h2004_o⟩
              obtain ⟨x2006_o, x2007_o, x2008_o, x2009_o, x2010_o, x2011_o, x2012_o, x2013_o⟩ := y_l
              obtain ⟨e2015_o, h2014_o⟩ := hy_o
              dsimp only at e2015_o h2014_o
              subst e2015_o
              show gQ (sb_229_102 217 x2007_o x2008_o x2009_o x2010_o x2011_o x2012_o x2013_o) _
              unfold sb_229_102
              refine gQ_v1 (A := Fw W g) (om_227 hg_o hU_o rfl h2014_o) (fun v17 s16 h2016_o => ?_)
              refine gQ_v1 (A := Fw W g) (om_226 hg_o hU_o rfl h2016_o) (fun v19 s18 h2017_o => ?_)
              refine gQ_ite ?_ ?_
              · refine gQ_map ?_
                refine gQ_ite ?_ ?_
                · refine gQ_map ?_
                  exact gQ_ret h2017_o
                · refine gQ_v1 (A := Fw W g) (om_151 hg_o hU_o  h2017_o) (fun v21 s20 h2018_o => ?_)
                  refine gQ_v1 (A := Fw W g) (om_228 hg_o hU_o rfl h2018_o) (fun v23 s22 h2019_o => ?_)
                  refine gQ_ite ?_ ?_
                  · refine gQ_map ?_
                    exact gQ_ret h2019_o
                  · exact gQ_ret ⟨rfl, h2019_o⟩
              · exact gQ_ret ⟨rfl, h2017_o⟩
    · refine gQ_v1 (A := Fw W g) (om_150 hg_o hU_o  h1963_o) (fun v25 s24 h2020_o => ?_)
      refine gQ_ite ?_ ?_
      · unfold fb_229_33
        dsimp only
        refine gQ_ite ?_ ?_
        · exact gQ_ret (Fw_w h2020_o rfl (hU_o 217 _ rfl))
        · refine gQ_v1 (A := Fw W g) (om_165 hg_o hU_o rfl (Fw_w h2020_o rfl (hU_o 217 _ rfl))) (fun v6 s5 h2021_o => ?_)
          refine gQ_ite ?_ ?_
          · exact gQ_ret h2021_o
          · refine gQ_v0 (A := Fw W g) (om_225 hg_o hU_o hA_o hm_o hw4_o rfl h2021_o) (fun s8 h2022_o => ?_)
            refine gQ_v1 (A := Fw W g) (om_156 hg_o hU_o rfl h2022_o) (fun v11 s10 h2023_o => ?_)
            refine gQ_v1 (A := Fw W g) (om_156 hg_o hU_o rfl h2023_o) (fun v13 s12 h2024_o => ?_)
            refine gQ_ite ?_ ?_
            · refine gQ_v1 (A := Fw W g) (om_226 hg_o hU_o rfl h2024_o) (fun v15 s14 h2025_o => ?_)
              exact gQ_ret h2025_o
            · refine gQ_loop (fun y_l => y_l.1 = 217 ∧ Fw W g (y_l.2.2.2.2.2.2)) (fun y_l hy_o => ?_) ⟨rfl, h2024_o⟩
              obtain ⟨x2026_o, x2027_o, x2028_o, x2029_o, x2030_o, x2031_o, x2032_o⟩ := y_l
              obtain ⟨e2034_o, h2033_o⟩ := hy_o
              dsimp only at e2034_o h2033_o
              subst e2034_o
              show gQ (sb_229_93 217 x2027_o x2028_o x2029_o x2030_o x2031_o x2032_o) _
              unfold sb_229_93
              refine gQ_ite ?_ ?_
              · refine gQ_map ?_
                exact gQ_ret h2033_o
              · refine gQ_loop (fun y_l => y_l.1 = 217 ∧ Fw W g (y_l.2.2.2.2.2.2.2)) (fun y_l hy_o => ?_) ⟨rfl, h2033_o⟩
                obtain ⟨x2035_o, x2036_o, x2037_o, x2038_o, x2039_o, x2040_o, x2041_o, x2042_o⟩ := y_l
                obtain ⟨e2044_o, h2043_o⟩ := hy_o
                dsimp only at e2044_o h2043_o
                subst e2044_o
                show gQ (sb_229_102 217 x2036_o x2037_o x2038_o x2039_o x2040_o x2041_o x2042_o) _
                unfold sb_229_102
                refine gQ_v1 (A := Fw W g) (om_227 hg_o hU_o rfl h2043_o) (fun v17 s16 h2045_o => ?_)
                refine gQ_v1 (A := Fw W g) (om_226 hg_o hU_o rfl h2045_o) (fun v19 s18 h2046_o => ?_)
                refine gQ_ite ?_ ?_
                · refine gQ_map ?_
                  refine gQ_ite ?_ ?_
                  · refine gQ_map ?_
                    exact gQ_ret h2046_o
                  · refine gQ_v1 (A := Fw W g) (om_151 hg_o hU_o  h2046_o) (fun v21 s20 h2047_o => ?_)
                    refine gQ_v1 (A := Fw W g) (om_228 hg_o hU_o rfl h2047_o) (fun v23 s22 h2048_o => ?_)
                    refine gQ_ite ?_ ?_
                    · refine gQ_map ?_
                      exact gQ_ret h2048_o
                    · exact gQ_ret ⟨rfl, h2048_o⟩
                · exact gQ_ret ⟨rfl, h2046_o⟩
      · unfold fb_229_32
        unfold fb_229_33
        dsimp only
        refine gQ_ite ?_ ?_
        · exact gQ_ret (Fw_w h2020_o rfl (hU_o 217 _ rfl))
        · refine gQ_v1 (A := Fw W g) (om_165 hg_o hU_o rfl (Fw_w h2020_o rfl (hU_o 217 _ rfl))) (fun v6 s5 h2049_o => ?_)
          refine gQ_ite ?_ ?_
          · exact gQ_ret h2049_o
          · refine gQ_v0 (A := Fw W g) (om_225 hg_o hU_o hA_o hm_o hw4_o rfl h2049_o) (fun s8 h2050_o => ?_)
            refine gQ_v1 (A := Fw W g) (om_156 hg_o hU_o rfl h2050_o) (fun v11 s10 h2051_o => ?_)
            refine gQ_v1 (A := Fw W g) (om_156 hg_o hU_o rfl h2051_o) (fun v13 s12 h2052_o => ?_)
            refine gQ_ite ?_ ?_
            · refine gQ_v1 (A := Fw W g) (om_226 hg_o hU_o rfl h2052_o) (fun v15 s14 h2053_o => ?_)
              exact gQ_ret h2053_o
            · refine gQ_loop (fun y_l => y_l.1 = 217 ∧ Fw W g (y_l.2.2.2.2.2.2)) (fun y_l hy_o => ?_) ⟨rfl, h2052_o⟩
              obtain ⟨x2054_o, x2055_o, x2056_o, x2057_o, x2058_o, x2059_o, x2060_o⟩ := y_l
              obtain ⟨e2062_o, h2061_o⟩ := hy_o
              dsimp only at e2062_o h2061_o
              subst e2062_o
              show gQ (sb_229_93 217 x2055_o x2056_o x2057_o x2058_o x2059_o x2060_o) _
              unfold sb_229_93
              refine gQ_ite ?_ ?_
              · refine gQ_map ?_
                exact gQ_ret h2061_o
              · refine gQ_loop (fun y_l => y_l.1 = 217 ∧ Fw W g (y_l.2.2.2.2.2.2.2)) (fun y_l hy_o => ?_) ⟨rfl, h2061_o⟩
                obtain ⟨x2063_o, x2064_o, x2065_o, x2066_o, x2067_o, x2068_o, x2069_o, x2070_o⟩ := y_l
                obtain ⟨e2072_o, h2071_o⟩ := hy_o
                dsimp only at e2072_o h2071_o
                subst e2072_o
                show gQ (sb_229_102 217 x2064_o x2065_o x2066_o x2067_o x2068_o x2069_o x2070_o) _
                unfold sb_229_102
                refine gQ_v1 (A := Fw W g) (om_227 hg_o hU_o rfl h2071_o) (fun v17 s16 h2073_o => ?_)
                refine gQ_v1 (A := Fw W g) (om_226 hg_o hU_o rfl h2073_o) (fun v19 s18 h2074_o => ?_)
                refine gQ_ite ?_ ?_
                · refine gQ_map ?_
                  refine gQ_ite ?_ ?_
                  · refine gQ_map ?_
                    exact gQ_ret h2074_o
                  · refine gQ_v1 (A := Fw W g) (om_151 hg_o hU_o  h2074_o) (fun v21 s20 h2075_o => ?_)
                    refine gQ_v1 (A := Fw W g) (om_228 hg_o hU_o rfl h2075_o) (fun v23 s22 h2076_o => ?_)
                    refine gQ_ite ?_ ?_
                    · refine gQ_map ?_
                      exact gQ_ret h2076_o
                    · exact gQ_ret ⟨rfl, h2076_o⟩
                · exact gQ_ret ⟨rfl, h2074_o⟩

theorem om_230 {W : Nat → Nat → Bool} {g s : gS} {a0 : Nat} {a1 : Int} {a2 : Int} (hg_o : RF g) (hU_o : ∀ a k, mss a k = true → W a k = true)  (hA_o : ∀ k, W 220 k = true) (hm_o : gI g 218 4 ≤ 6) (hw4_o : W 218 4 = false) (ea0_o : a0 = 217) (h_o : Fw W g s) : gQ (f_230 a0 a1 a2 s) (fun r => Fw W g r.2.2.2) := by
  subst ea0_o
  unfold f_230
  refine gQ_v1 (A := Fw W g) (om_162 hg_o hU_o rfl h_o) (fun v2 s1_l h2077_o => ?_)
  refine gQ_ite ?_ ?_
  · unfold fb_230_28
    dsimp only
    refine gQ_ite ?_ ?_
    · exact gQ_ret (Fw_w h2077_o rfl (hU_o 217 _ rfl))
    · refine gQ_v1 (A := Fw W g) (om_165 hg_o hU_o rfl (Fw_w h2077_o rfl (hU_o 217 _ rfl))) (fun v6 s5 h2078_o => ?_)
      refine gQ_ite ?_ ?_
      · exact gQ_ret h2078_o
      · refine gQ_v0 (A := Fw W g) (om_225 hg_o hU_o hA_o hm_o hw4_o rfl h2078_o) (fun s8 h2079_o => ?_)
        refine gQ_loop (fun y_l => y_l.1 = 217 ∧ Fw W g (y_l.2.2.2.2)) (fun y_l hy_o => ?_) ⟨rfl, h2079_o⟩
        obtain ⟨x2080_o, x2081_o, x2082_o, x2083_o, x2084_o⟩ := y_l
        obtain ⟨e2086_o, h2085_o⟩ := hy_o
        dsimp only at e2086_o h2085_o
        subst e2086_o
        show gQ (sb_230_57 217 x2081_o x2082_o x2083_o x2084_o) _
        unfold sb_230_57
        refine gQ_ite ?_ ?_
        · refine gQ_map ?_
          exact gQ_ret h2085_o
        · refine gQ_v1 (A := Fw W g) (om_156 hg_o hU_o rfl h2085_o) (fun v11 s10 h2087_o => ?_)
          refine gQ_v1 (A := Fw W g) (om_226 hg_o hU_o rfl h2087_o) (fun v13 s12 h2088_o => ?_)
          refine gQ_ite ?_ ?_
          · exact gQ_ret ⟨rfl, h2088_o⟩
          · refine gQ_map ?_
            exact gQ_ret h2088_o
  · refine gQ_v1 (A := Fw W g) (om_150 hg_o hU_o  h2077_o) (fun v15 s14 h2089_o => ?_)
    refine gQ_ite ?_ ?_
    · unfold fb_230_28
      dsimp only
      refine gQ_ite ?_ ?_
      · exact gQ_ret (Fw_w h2089_o rfl (hU_o 217 _ rfl))
      · refine gQ_v1 (A := Fw W g) (om_165 hg_o hU_o rfl (Fw_w h2089_o rfl (hU_o 217 _ rfl))) (fun v6 s5 h2090_o => ?_)
        refine gQ_ite ?_ ?_
        · exact gQ_ret h2090_o
        · refine gQ_v0 (A := Fw W g) (om_225 hg_o hU_o hA_o hm_o hw4_o rfl h2090_o) (fun s8 h2091_o => ?_)
          refine gQ_loop (fun y_l => y_l.1 = 217 ∧ Fw W g (y_l.2.2.2.2)) (fun y_l hy_o => ?_) ⟨rfl, h2091_o⟩
          obtain ⟨x2092_o, x2093_o, x2094_o, x2095_o, x2096_o⟩ := y_l
          obtain ⟨e2098_o, h2097_o⟩ := hy_o
          dsimp only at e2098_o h2097_o
          subst e2098_o
          show gQ (sb_230_57 217 x2093_o x2094_o x2095_o x2096_o) _
          unfold sb_230_57
          refine gQ_ite ?_ ?_
          · refine gQ_map ?_
            exact gQ_ret h2097_o
          · refine gQ_v1 (A := Fw W g) (om_156 hg_o hU_o rfl h2097_o) (fun v11 s10 h2099_o => ?_)
            refine gQ_v1 (A := Fw W g) (om_226 hg_o hU_o rfl h2099_o) (fun v13 s12 h2100_o => ?_)
            refine gQ_ite ?_ ?_
            · exact gQ_ret ⟨rfl, h2100_o⟩
            · refine gQ_map ?_
              exact gQ_ret h2100_o
    · unfold fb_230_28
      dsimp only
      refine gQ_ite ?_ ?_
      · exact gQ_ret (Fw_w h2089_o rfl (hU_o 217 _ rfl))
      · refine gQ_v1 (A := Fw W g) (om_165 hg_o hU_o rfl (Fw_w h2089_o rfl (hU_o 217 _ rfl))) (fun v6 s5 h2101_o => ?_)
        refine gQ_ite ?_ ?_
        · exact gQ_ret h2101_o
        · refine gQ_v0 (A := Fw W g) (om_225 hg_o hU_o hA_o hm_o hw4_o rfl h2101_o) (fun s8 h2102_o => ?_)
          refine gQ_loop (fun y_l => y_l.1 = 217 ∧ Fw W g (y_l.2.2.2.2)) (fun y_l hy_o => ?_) ⟨rfl, h2102_o⟩
          obtain ⟨x2103_o, x2104_o, x2105_o, x2106_o, x2107_o⟩ := y_l
          obtain ⟨e2109_o, h2108_o⟩ := hy_o
          dsimp only at e2109_o h2108_o
          subst e2109_o
          show gQ (sb_230_57 217 x2104_o x2105_o x2106_o x2107_o) _
          unfold sb_230_57
          refine gQ_ite ?_ ?_
          · refine gQ_map ?_
            exact gQ_ret h2108_o
          · refine gQ_v1 (A := Fw W g) (om_156 hg_o hU_o rfl h2108_o) (fun v11 s10 h2110_o => ?_)
            refine gQ_v1 (A := Fw W g) (om_226 hg_o hU_o rfl h2110_o) (fun v13 s12 h2111_o => ?_)
            refine gQ_ite ?_ ?_
            · exact gQ_ret ⟨rfl, h2111_o⟩
            · refine gQ_map ?_
              exact gQ_ret h2111_o
