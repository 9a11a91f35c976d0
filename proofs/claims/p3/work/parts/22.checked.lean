set_option maxRecDepth 100000 in
theorem rz_c0 : (rz_T 0).all (fun e => rz_ok 0 e.1 e.2) = true := by decide +kernel
set_option maxRecDepth 100000 in
theorem rz_c1 : (rz_T 1).all (fun e => rz_ok 1 e.1 e.2) = true := by decide +kernel
set_option maxRecDepth 100000 in
theorem rz_c2 : (rz_T 2).all (fun e => rz_ok 2 e.1 e.2) = true := by decide +kernel
set_option maxRecDepth 100000 in
theorem rz_c3 : (rz_T 3).all (fun e => rz_ok 3 e.1 e.2) = true := by decide +kernel
set_option maxRecDepth 100000 in
theorem rz_c4 : (rz_T 4).all (fun e => rz_ok 4 e.1 e.2) = true := by decide +kernel
set_option maxRecDepth 100000 in
theorem rz_c5 : (rz_T 5).all (fun e => rz_ok 5 e.1 e.2) = true := by decide +kernel
set_option maxRecDepth 100000 in
theorem rz_c6 : (rz_T 6).all (fun e => rz_ok 6 e.1 e.2) = true := by decide +kernel
set_option maxRecDepth 100000 in
theorem rz_c7 : (rz_T 7).all (fun e => rz_ok 7 e.1 e.2) = true := by decide +kernel
set_option maxRecDepth 100000 in
theorem rz_c8 : (rz_T 8).all (fun e => rz_ok 8 e.1 e.2) = true := by decide +kernel
set_option maxRecDepth 100000 in
theorem rz_c9 : (rz_T 9).all (fun e => rz_ok 9 e.1 e.2) = true := by decide +kernel
set_option maxRecDepth 100000 in
theorem rz_c10 : (rz_T 10).all (fun e => rz_ok 10 e.1 e.2) = true := by decide +kernel
set_option maxRecDepth 100000 in
theorem rz_c11 : (rz_T 11).all (fun e => rz_ok 11 e.1 e.2) = true := by decide +kernel
set_option maxRecDepth 100000 in
theorem rz_c12 : (rz_T 12).all (fun e => rz_ok 12 e.1 e.2) = true := by decide +kernel
set_option maxRecDepth 100000 in
theorem rz_c13 : (rz_T 13).all (fun e => rz_ok 13 e.1 e.2) = true := by decide +kernel
set_option maxRecDepth 100000 in
theorem rz_c14 : (rz_T 14).all (fun e => rz_ok 14 e.1 e.2) = true := by decide +kernel
set_option maxRecDepth 100000 in
theorem rz_c15 : (rz_T 15).all (fun e => rz_ok 15 e.1 e.2) = true := by decide +kernel
set_option maxRecDepth 100000 in
theorem rz_c16 : (rz_T 16).all (fun e => rz_ok 16 e.1 e.2) = true := by decide +kernel
set_option maxRecDepth 100000 in
theorem rz_c17 : (rz_T 17).all (fun e => rz_ok 17 e.1 e.2) = true := by decide +kernel
set_option maxRecDepth 100000 in
theorem rz_c18 : (rz_T 18).all (fun e => rz_ok 18 e.1 e.2) = true := by decide +kernel
set_option maxRecDepth 100000 in
theorem rz_c19 : (rz_T 19).all (fun e => rz_ok 19 e.1 e.2) = true := by decide +kernel
set_option maxRecDepth 100000 in
theorem rz_c20 : (rz_T 20).all (fun e => rz_ok 20 e.1 e.2) = true := by decide +kernel
set_option maxRecDepth 100000 in
theorem rz_c21 : (rz_T 21).all (fun e => rz_ok 21 e.1 e.2) = true := by decide +kernel
set_option maxRecDepth 100000 in
theorem rz_c22 : (rz_T 22).all (fun e => rz_ok 22 e.1 e.2) = true := by decide +kernel
set_option maxRecDepth 100000 in
theorem rz_c23 : (rz_T 23).all (fun e => rz_ok 23 e.1 e.2) = true := by decide +kernel
set_option maxRecDepth 100000 in
theorem rz_c24 : (rz_T 24).all (fun e => rz_ok 24 e.1 e.2) = true := by decide +kernel
set_option maxRecDepth 100000 in
theorem rz_c25 : (rz_T 25).all (fun e => rz_ok 25 e.1 e.2) = true := by decide +kernel
set_option maxRecDepth 100000 in
theorem rz_c26 : (rz_T 26).all (fun e => rz_ok 26 e.1 e.2) = true := by decide +kernel
set_option maxRecDepth 100000 in
theorem rz_c27 : (rz_T 27).all (fun e => rz_ok 27 e.1 e.2) = true := by decide +kernel
set_option maxRecDepth 100000 in
theorem rz_c28 : (rz_T 28).all (fun e => rz_ok 28 e.1 e.2) = true := by decide +kernel
set_option maxRecDepth 100000 in
theorem rz_c29 : (rz_T 29).all (fun e => rz_ok 29 e.1 e.2) = true := by decide +kernel
set_option maxRecDepth 100000 in
theorem rz_c30 : (rz_T 30).all (fun e => rz_ok 30 e.1 e.2) = true := by decide +kernel
set_option maxRecDepth 100000 in
theorem rz_c31 : (rz_T 31).all (fun e => rz_ok 31 e.1 e.2) = true := by decide +kernel
set_option maxRecDepth 100000 in
theorem rz_c32 : (rz_T 32).all (fun e => rz_ok 32 e.1 e.2) = true := by decide +kernel
set_option maxRecDepth 100000 in
theorem rz_c33 : (rz_T 33).all (fun e => rz_ok 33 e.1 e.2) = true := by decide +kernel
set_option maxRecDepth 100000 in
theorem rz_c34 : (rz_T 34).all (fun e => rz_ok 34 e.1 e.2) = true := by decide +kernel
set_option maxRecDepth 100000 in
theorem rz_c35 : (rz_T 35).all (fun e => rz_ok 35 e.1 e.2) = true := by decide +kernel
set_option maxRecDepth 100000 in
theorem rz_c36 : (rz_T 36).all (fun e => rz_ok 36 e.1 e.2) = true := by decide +kernel
set_option maxRecDepth 100000 in
theorem rz_c37 : (rz_T 37).all (fun e => rz_ok 37 e.1 e.2) = true := by decide +kernel
set_option maxRecDepth 100000 in
theorem rz_c38 : (rz_T 38).all (fun e => rz_ok 38 e.1 e.2) = true := by decide +kernel
set_option maxRecDepth 100000 in
theorem rz_c39 : (rz_T 39).all (fun e => rz_ok 39 e.1 e.2) = true := by decide +kernel
set_option maxRecDepth 100000 in
theorem rz_c40 : (rz_T 40).all (fun e => rz_ok 40 e.1 e.2) = true := by decide +kernel
set_option maxRecDepth 100000 in
theorem rz_c41 : (rz_T 41).all (fun e => rz_ok 41 e.1 e.2) = true := by decide +kernel
set_option maxRecDepth 100000 in
theorem rz_c42 : (rz_T 42).all (fun e => rz_ok 42 e.1 e.2) = true := by decide +kernel
set_option maxRecDepth 100000 in
theorem rz_c43 : (rz_T 43).all (fun e => rz_ok 43 e.1 e.2) = true := by decide +kernel
set_option maxRecDepth 100000 in
theorem rz_c44 : (rz_T 44).all (fun e => rz_ok 44 e.1 e.2) = true := by decide +kernel
set_option maxRecDepth 100000 in
theorem rz_c45 : (rz_T 45).all (fun e => rz_ok 45 e.1 e.2) = true := by decide +kernel
set_option maxRecDepth 100000 in
theorem rz_c46 : (rz_T 46).all (fun e => rz_ok 46 e.1 e.2) = true := by decide +kernel
set_option maxRecDepth 100000 in
theorem rz_c47 : (rz_T 47).all (fun e => rz_ok 47 e.1 e.2) = true := by decide +kernel
set_option maxRecDepth 100000 in
theorem rz_c48 : (rz_T 48).all (fun e => rz_ok 48 e.1 e.2) = true := by decide +kernel
set_option maxRecDepth 100000 in
theorem rz_c49 : (rz_T 49).all (fun e => rz_ok 49 e.1 e.2) = true := by decide +kernel
set_option maxRecDepth 100000 in
theorem rz_c50 : (rz_T 50).all (fun e => rz_ok 50 e.1 e.2) = true := by decide +kernel
set_option maxRecDepth 100000 in
theorem rz_c51 : (rz_T 51).all (fun e => rz_ok 51 e.1 e.2) = true := by decide +kernel
set_option maxRecDepth 100000 in
theorem rz_c52 : (rz_T 52).all (fun e => rz_ok 52 e.1 e.2) = true := by decide +kernel
set_option maxRecDepth 100000 in
theorem rz_c53 : (rz_T 53).all (fun e => rz_ok 53 e.1 e.2) = true := by decide +kernel
set_option maxRecDepth 100000 in
theorem rz_c54 : (rz_T 54).all (fun e => rz_ok 54 e.1 e.2) = true := by decide +kernel
set_option maxRecDepth 100000 in
theorem rz_c55 : (rz_T 55).all (fun e => rz_ok 55 e.1 e.2) = true := by decide +kernel
set_option maxRecDepth 100000 in
theorem rz_c56 : (rz_T 56).all (fun e => rz_ok 56 e.1 e.2) = true := by decide +kernel
set_option maxRecDepth 100000 in
theorem rz_c57 : (rz_T 57).all (fun e => rz_ok 57 e.1 e.2) = true := by decide +kernel
set_option maxRecDepth 100000 in
theorem rz_c58 : (rz_T 58).all (fun e => rz_ok 58 e.1 e.2) = true := by decide +kernel
set_option maxRecDepth 100000 in
theorem rz_c59 : (rz_T 59).all (fun e => rz_ok 59 e.1 e.2) = true := by decide +kernel
set_option maxRecDepth 100000 in
theorem rz_c60 : (rz_T 60).all (fun e => rz_ok 60 e.1 e.2) = true := by decide +kernel
set_option maxRecDepth 100000 in
theorem rz_c61 : (rz_T 61).all (fun e => rz_ok 61 e.1 e.2) = true := by decide +kernel
set_option maxRecDepth 100000 in
theorem rz_c62 : (rz_T 62).all (fun e => rz_ok 62 e.1 e.2) = true := by decide +kernel
set_option maxRecDepth 100000 in
theorem rz_c63 : (rz_T 63).all (fun e => rz_ok 63 e.1 e.2) = true := by decide +kernel
set_option maxRecDepth 100000 in
theorem rz_c64 : (rz_T 64).all (fun e => rz_ok 64 e.1 e.2) = true := by decide +kernel
set_option maxRecDepth 100000 in
theorem rz_c65 : (rz_T 65).all (fun e => rz_ok 65 e.1 e.2) = true := by decide +kernel
set_option maxRecDepth 100000 in
theorem rz_c66 : (rz_T 66).all (fun e => rz_ok 66 e.1 e.2) = true := by decide +kernel
set_option maxRecDepth 100000 in
theorem rz_c67 : (rz_T 67).all (fun e => rz_ok 67 e.1 e.2) = true := by decide +kernel
set_option maxRecDepth 100000 in
theorem rz_c68 : (rz_T 68).all (fun e => rz_ok 68 e.1 e.2) = true := by decide +kernel
set_option maxRecDepth 100000 in
theorem rz_c69 : (rz_T 69).all (fun e => rz_ok 69 e.1 e.2) = true := by decide +kernel
set_option maxRecDepth 100000 in
theorem rz_c70 : (rz_T 70).all (fun e => rz_ok 70 e.1 e.2) = true := by decide +kernel
set_option maxRecDepth 100000 in
theorem rz_c71 : (rz_T 71).all (fun e => rz_ok 71 e.1 e.2) = true := by decide +kernel
set_option maxRecDepth 100000 in
theorem rz_c72 : (rz_T 72).all (fun e => rz_ok 72 e.1 e.2) = true := by decide +kernel
set_option maxRecDepth 100000 in
theorem rz_c73 : (rz_T 73).all (fun e => rz_ok 73 e.1 e.2) = true := by decide +kernel
set_option maxRecDepth 100000 in
theorem rz_c74 : (rz_T 74).all (fun e => rz_ok 74 e.1 e.2) = true := by decide +kernel
set_option maxRecDepth 100000 in
theorem rz_c75 : (rz_T 75).all (fun e => rz_ok 75 e.1 e.2) = true := by decide +kernel
set_option maxRecDepth 100000 in
theorem rz_c76 : (rz_T 76).all (fun e => rz_ok 76 e.1 e.2) = true := by decide +kernel
set_option maxRecDepth 100000 in
theorem rz_c77 : (rz_T 77).all (fun e => rz_ok 77 e.1 e.2) = true := by decide +kernel
set_option maxRecDepth 100000 in
theorem rz_c78 : (rz_T 78).all (fun e => rz_ok 78 e.1 e.2) = true := by decide +kernel
set_option maxRecDepth 100000 in
theorem rz_c79 : (rz_T 79).all (fun e => rz_ok 79 e.1 e.2) = true := by decide +kernel
set_option maxRecDepth 100000 in
theorem rz_c80 : (rz_T 80).all (fun e => rz_ok 80 e.1 e.2) = true := by decide +kernel
set_option maxRecDepth 100000 in
theorem rz_c81 : (rz_T 81).all (fun e => rz_ok 81 e.1 e.2) = true := by decide +kernel
set_option maxRecDepth 100000 in
theorem rz_c82 : (rz_T 82).all (fun e => rz_ok 82 e.1 e.2) = true := by decide +kernel
set_option maxRecDepth 100000 in
theorem rz_c83 : (rz_T 83).all (fun e => rz_ok 83 e.1 e.2) = true := by decide +kernel
set_option maxRecDepth 100000 in
theorem rz_c84 : (rz_T 84).all (fun e => rz_ok 84 e.1 e.2) = true := by decide +kernel
set_option maxRecDepth 100000 in
theorem rz_c85 : (rz_T 85).all (fun e => rz_ok 85 e.1 e.2) = true := by decide +kernel
set_option maxRecDepth 100000 in
theorem rz_c86 : (rz_T 86).all (fun e => rz_ok 86 e.1 e.2) = true := by decide +kernel
set_option maxRecDepth 100000 in
theorem rz_c87 : (rz_T 87).all (fun e => rz_ok 87 e.1 e.2) = true := by decide +kernel
set_option maxRecDepth 100000 in
theorem rz_c88 : (rz_T 88).all (fun e => rz_ok 88 e.1 e.2) = true := by decide +kernel
set_option maxRecDepth 100000 in
theorem rz_c89 : (rz_T 89).all (fun e => rz_ok 89 e.1 e.2) = true := by decide +kernel
set_option maxRecDepth 100000 in
theorem rz_c90 : (rz_T 90).all (fun e => rz_ok 90 e.1 e.2) = true := by decide +kernel
set_option maxRecDepth 100000 in
theorem rz_c91 : (rz_T 91).all (fun e => rz_ok 91 e.1 e.2) = true := by decide +kernel
set_option maxRecDepth 100000 in
theorem rz_c92 : (rz_T 92).all (fun e => rz_ok 92 e.1 e.2) = true := by decide +kernel
set_option maxRecDepth 100000 in
theorem rz_c93 : (rz_T 93).all (fun e => rz_ok 93 e.1 e.2) = true := by decide +kernel
set_option maxRecDepth 100000 in
theorem rz_c94 : (rz_T 94).all (fun e => rz_ok 94 e.1 e.2) = true := by decide +kernel
set_option maxRecDepth 100000 in
theorem rz_c95 : (rz_T 95).all (fun e => rz_ok 95 e.1 e.2) = true := by decide +kernel
set_option maxRecDepth 100000 in
theorem rz_c96 : (rz_T 96).all (fun e => rz_ok 96 e.1 e.2) = true := by decide +kernel
set_option maxRecDepth 100000 in
theorem rz_c97 : (rz_T 97).all (fun e => rz_ok 97 e.1 e.2) = true := by decide +kernel
set_option maxRecDepth 100000 in
theorem rz_c98 : (rz_T 98).all (fun e => rz_ok 98 e.1 e.2) = true := by decide +kernel
set_option maxRecDepth 100000 in
theorem rz_c99 : (rz_T 99).all (fun e => rz_ok 99 e.1 e.2) = true := by decide +kernel
set_option maxRecDepth 100000 in
theorem rz_c100 : (rz_T 100).all (fun e => rz_ok 100 e.1 e.2) = true := by decide +kernel
set_option maxRecDepth 100000 in
theorem rz_c101 : (rz_T 101).all (fun e => rz_ok 101 e.1 e.2) = true := by decide +kernel
set_option maxRecDepth 100000 in
theorem rz_c102 : (rz_T 102).all (fun e => rz_ok 102 e.1 e.2) = true := by decide +kernel
set_option maxRecDepth 100000 in
theorem rz_c103 : (rz_T 103).all (fun e => rz_ok 103 e.1 e.2) = true := by decide +kernel
set_option maxRecDepth 100000 in
theorem rz_c104 : (rz_T 104).all (fun e => rz_ok 104 e.1 e.2) = true := by decide +kernel
set_option maxRecDepth 100000 in
theorem rz_c105 : (rz_T 105).all (fun e => rz_ok 105 e.1 e.2) = true := by decide +kernel
set_option maxRecDepth 100000 in
theorem rz_c106 : (rz_T 106).all (fun e => rz_ok 106 e.1 e.2) = true := by decide +kernel
set_option maxRecDepth 100000 in
theorem rz_c107 : (rz_T 107).all (fun e => rz_ok 107 e.1 e.2) = true := by decide +kernel
set_option maxRecDepth 100000 in
theorem rz_c108 : (rz_T 108).all (fun e => rz_ok 108 e.1 e.2) = true := by decide +kernel
set_option maxRecDepth 100000 in
theorem rz_c109 : (rz_T 109).all (fun e => rz_ok 109 e.1 e.2) = true := by decide +kernel
set_option maxRecDepth 100000 in
theorem rz_c110 : (rz_T 110).all (fun e => rz_ok 110 e.1 e.2) = true := by decide +kernel
set_option maxRecDepth 100000 in
theorem rz_c111 : (rz_T 111).all (fun e => rz_ok 111 e.1 e.2) = true := by decide +kernel
