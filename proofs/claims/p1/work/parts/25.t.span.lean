theorem es_o38_0 : es_okb (es_run2 es_ME es_CT 6 100000 194 (es_K0 2390 (es_FF 0 4294967295 0 2147483647))) = true := by decide +kernel
theorem es_o38_1 : es_okb (es_run2 es_ME es_CT 6 100000 194 (es_K0 2390 (es_FF 0 4294967295 2147483648 2147483648))) = true := by decide +kernel
theorem es_o38_2 : es_okb (es_run2 es_ME es_CT 6 100000 194 (es_K0 2390 (es_FF 0 4294967295 2147483649 4294967295))) = true := by decide +kernel
theorem es_o39_0 : es_okb (es_run2 es_ME es_CT 6 100000 194 (es_K0 2474 (es_FF 0 4294967295 0 2147483647))) = true := by decide +kernel
theorem es_o39_1 : es_okb (es_run2 es_ME es_CT 6 100000 194 (es_K0 2474 (es_FF 0 4294967295 2147483648 2147483648))) = true := by decide +kernel
theorem es_o39_2 : es_okb (es_run2 es_ME es_CT 6 100000 194 (es_K0 2474 (es_FF 0 4294967295 2147483649 4294967295))) = true := by decide +kernel
