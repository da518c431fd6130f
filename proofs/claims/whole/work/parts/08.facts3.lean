set_option maxRecDepth 100000 in
theorem fl_SeldomOps_10 : xfl "SeldomOps" 10 10 0 true := ⟨_, _, _, rfl, by decide, tw_243, rfl, rfl⟩
set_option maxRecDepth 100000 in
theorem fl_SeldomOps_21 : xfl "SeldomOps" 21 10 1 true := ⟨_, _, _, rfl, by decide, tw_244, rfl, rfl⟩
set_option maxRecDepth 100000 in
theorem fl_SeldomOps_28 : xfl "SeldomOps" 28 10 2 true := ⟨_, _, _, rfl, by decide, tw_245, rfl, rfl⟩
set_option maxRecDepth 100000 in
theorem fl_SeldomOps_32 : xfl "SeldomOps" 32 10 3 true := ⟨_, _, _, rfl, by decide, tw_246, rfl, rfl⟩
set_option maxRecDepth 100000 in
theorem fl_SeldomOps_36 : xfl "SeldomOps" 36 10 4 false := ⟨_, _, _, rfl, by decide, tw_247, rfl, rfl⟩
set_option maxRecDepth 100000 in
theorem fl_SeldomOps_44 : xfl "SeldomOps" 44 3 1 false := ⟨_, _, _, rfl, by decide, tw_36, rfl, rfl⟩
set_option maxRecDepth 100000 in
theorem fl_SeldomOps_58 : xfl "SeldomOps" 58 2 3 false := ⟨_, _, _, rfl, by decide, tw_311, rfl, rfl⟩
set_option maxRecDepth 100000 in
theorem fl_SeldomOps_69 : xfl "SeldomOps" 69 2 7 false := ⟨_, _, _, rfl, by decide, tw_324, rfl, rfl⟩
set_option maxRecDepth 100000 in
theorem fl_SeldomOps_76 : xfl "SeldomOps" 76 2 12 false := ⟨_, _, _, rfl, by decide, tw_331, rfl, rfl⟩
set_option maxRecDepth 100000 in
theorem fl_SeldomOps_83 : xfl "SeldomOps" 83 3 3 false := ⟨_, _, _, rfl, by decide, tw_41, rfl, rfl⟩
set_option maxRecDepth 100000 in
theorem fl_SeldomOps_90 : xfl "SeldomOps" 90 3 5 false := ⟨_, _, _, rfl, by decide, tw_45, rfl, rfl⟩
set_option maxRecDepth 100000 in
theorem fl_SeldomOps_107 : xfl "SeldomOps" 107 6 5 false := ⟨_, _, _, rfl, by decide, tw_446, rfl, rfl⟩
set_option maxRecDepth 100000 in
theorem fl_SeldomOps_118 : xfl "SeldomOps" 118 1 3 false := ⟨_, _, _, rfl, by decide, tw_105, rfl, rfl⟩
set_option maxRecDepth 100000 in
theorem fl_SeldomOps_121 : xfl "SeldomOps" 121 1 4 false := ⟨_, _, _, rfl, by decide, tw_107, rfl, rfl⟩
set_option maxRecDepth 100000 in
theorem fl_SeldomOps_124 : xfl "SeldomOps" 124 2 15 false := ⟨_, _, _, rfl, by decide, tw_343, rfl, rfl⟩
set_option maxRecDepth 100000 in
theorem fl_SeldomOps_128 : xfl "SeldomOps" 128 2 14 false := ⟨_, _, _, rfl, by decide, tw_339, rfl, rfl⟩
set_option maxRecDepth 100000 in
theorem fl_SeldomOps_131 : xfl "SeldomOps" 131 2 13 true := ⟨_, _, _, rfl, by decide, tw_335, rfl, rfl⟩
set_option maxRecDepth 100000 in
theorem fl_SeldomOps_144 : xfl "SeldomOps" 144 2 2 false := ⟨_, _, _, rfl, by decide, tw_309, rfl, rfl⟩
set_option maxRecDepth 100000 in
theorem fl_SeldomOps_154 : xfl "SeldomOps" 154 8 5 false := ⟨_, _, _, rfl, by decide, tw_202, rfl, rfl⟩
set_option maxRecDepth 100000 in
theorem fl_SeldomOps_161 : xfl "SeldomOps" 161 8 1 true := ⟨_, _, _, rfl, by decide, tw_197, rfl, rfl⟩
set_option maxRecDepth 100000 in
theorem fl_Call_9 : xfl "SeldomOps$Call" 9 0 0 false := ⟨_, _, _, rfl, by decide, tw_163, rfl, rfl⟩
set_option maxRecDepth 100000 in
theorem fl_Call_15 : xfl "SeldomOps$Call" 15 0 1 false := ⟨_, _, _, rfl, by decide, tw_165, rfl, rfl⟩
set_option maxRecDepth 100000 in
theorem fl_Call_19 : xfl "SeldomOps$Call" 19 0 2 false := ⟨_, _, _, rfl, by decide, tw_167, rfl, rfl⟩
set_option maxRecDepth 100000 in
theorem fl_Call_22 : xfl "SeldomOps$Call" 22 0 3 false := ⟨_, _, _, rfl, by decide, tw_169, rfl, rfl⟩
set_option maxRecDepth 100000 in
theorem fl_Call_28 : xfl "SeldomOps$Call" 28 0 4 true := ⟨_, _, _, rfl, by decide, tw_171, rfl, rfl⟩
set_option maxRecDepth 100000 in
theorem fl_Call_32 : xfl "SeldomOps$Call" 32 0 5 true := ⟨_, _, _, rfl, by decide, tw_173, rfl, rfl⟩
set_option maxRecDepth 100000 in
theorem fl_Call_36 : xfl "SeldomOps$Call" 36 0 6 true := ⟨_, _, _, rfl, by decide, tw_174, rfl, rfl⟩
set_option maxRecDepth 100000 in
theorem fl_Call_40 : xfl "SeldomOps$Call" 40 0 7 false := ⟨_, _, _, rfl, by decide, tw_176, rfl, rfl⟩
set_option maxRecDepth 100000 in
theorem fl_Judge_12 : xfl "SeldomOps$Judge" 12 1 1 true := ⟨_, _, _, rfl, by decide, tw_102, rfl, rfl⟩
set_option maxRecDepth 100000 in
theorem fl_Judge_18 : xfl "SeldomOps$Judge" 18 1 2 true := ⟨_, _, _, rfl, by decide, tw_103, rfl, rfl⟩
set_option maxRecDepth 100000 in
theorem fl_Judge_21 : xfl "SeldomOps$Judge" 21 1 3 false := ⟨_, _, _, rfl, by decide, tw_104, rfl, rfl⟩
set_option maxRecDepth 100000 in
theorem fl_Judge_25 : xfl "SeldomOps$Judge" 25 1 4 false := ⟨_, _, _, rfl, by decide, tw_106, rfl, rfl⟩
set_option maxRecDepth 100000 in
theorem fl_Judge_28 : xfl "SeldomOps$Judge" 28 1 5 false := ⟨_, _, _, rfl, by decide, tw_108, rfl, rfl⟩
set_option maxRecDepth 100000 in
theorem fl_Judge_31 : xfl "SeldomOps$Judge" 31 1 0 true := ⟨_, _, _, rfl, by decide, tw_101, rfl, rfl⟩
set_option maxRecDepth 100000 in
theorem fl_Judge_35 : xfl "SeldomOps$Judge" 35 2 14 false := ⟨_, _, _, rfl, by decide, tw_337, rfl, rfl⟩
set_option maxRecDepth 100000 in
theorem fl_Judge_45 : xfl "SeldomOps$Judge" 45 2 7 false := ⟨_, _, _, rfl, by decide, tw_323, rfl, rfl⟩
set_option maxRecDepth 100000 in
theorem fl_Judge_48 : xfl "SeldomOps$Judge" 48 2 13 true := ⟨_, _, _, rfl, by decide, tw_334, rfl, rfl⟩
set_option maxRecDepth 100000 in
theorem fl_Judge_52 : xfl "SeldomOps$Judge" 52 5 3 true := ⟨_, _, _, rfl, by decide, tw_289, rfl, rfl⟩
set_option maxRecDepth 100000 in
theorem fl_Judge_73 : xfl "SeldomOps$Judge" 73 2 15 false := ⟨_, _, _, rfl, by decide, tw_341, rfl, rfl⟩
set_option maxRecDepth 100000 in
theorem fl_Judge_76 : xfl "SeldomOps$Judge" 76 4 0 true := ⟨_, _, _, rfl, by decide, tw_91, rfl, rfl⟩
set_option maxRecDepth 100000 in
theorem fl_Judge_85 : xfl "SeldomOps$Judge" 85 4 1 true := ⟨_, _, _, rfl, by decide, tw_94, rfl, rfl⟩
set_option maxRecDepth 100000 in
theorem fl_Judge_91 : xfl "SeldomOps$Judge" 91 2 2 false := ⟨_, _, _, rfl, by decide, tw_308, rfl, rfl⟩
set_option maxRecDepth 100000 in
theorem fl_Judge_94 : xfl "SeldomOps$Judge" 94 2 1 true := ⟨_, _, _, rfl, by decide, tw_305, rfl, rfl⟩
set_option maxRecDepth 100000 in
theorem fl_Judge_113 : xfl "SeldomOps$Judge" 113 2 4 true := ⟨_, _, _, rfl, by decide, tw_315, rfl, rfl⟩
set_option maxRecDepth 100000 in
theorem fl_Judge_116 : xfl "SeldomOps$Judge" 116 2 5 true := ⟨_, _, _, rfl, by decide, tw_318, rfl, rfl⟩
set_option maxRecDepth 100000 in
theorem fl_Judge_119 : xfl "SeldomOps$Judge" 119 2 6 true := ⟨_, _, _, rfl, by decide, tw_321, rfl, rfl⟩
set_option maxRecDepth 100000 in
theorem fl_Judge_140 : xfl "SeldomOps$Judge" 140 2 0 true := ⟨_, _, _, rfl, by decide, tw_301, rfl, rfl⟩
set_option maxRecDepth 100000 in
theorem fl_Judge_147 : xfl "SeldomOps$Judge" 147 9 1 false := ⟨_, _, _, rfl, by decide, tw_84, rfl, rfl⟩
set_option maxRecDepth 100000 in
theorem fl_Judge_154 : xfl "SeldomOps$Judge" 154 3 3 false := ⟨_, _, _, rfl, by decide, tw_40, rfl, rfl⟩
set_option maxRecDepth 100000 in
theorem fl_Judge_162 : xfl "SeldomOps$Judge" 162 3 5 false := ⟨_, _, _, rfl, by decide, tw_44, rfl, rfl⟩
set_option maxRecDepth 100000 in
theorem fl_Judge_168 : xfl "SeldomOps$Judge" 168 3 1 false := ⟨_, _, _, rfl, by decide, tw_37, rfl, rfl⟩
set_option maxRecDepth 100000 in
theorem fl_Judge_180 : xfl "SeldomOps$Judge" 180 2 12 false := ⟨_, _, _, rfl, by decide, tw_332, rfl, rfl⟩
set_option maxRecDepth 100000 in
theorem fl_Judge_186 : xfl "SeldomOps$Judge" 186 2 10 true := ⟨_, _, _, rfl, by decide, tw_328, rfl, rfl⟩
set_option maxRecDepth 100000 in
theorem fl_Judge_234 : xfl "SeldomOps$Judge" 234 6 5 false := ⟨_, _, _, rfl, by decide, tw_447, rfl, rfl⟩
set_option maxRecDepth 100000 in
theorem fl_Judge_237 : xfl "SeldomOps$Judge" 237 6 4 true := ⟨_, _, _, rfl, by decide, tw_444, rfl, rfl⟩
set_option maxRecDepth 100000 in
theorem fl_Judge_238 : xfl "SeldomOps$Judge" 238 6 2 true := ⟨_, _, _, rfl, by decide, tw_441, rfl, rfl⟩
set_option maxRecDepth 100000 in
theorem fl_Method_9 : xfl "SeldomOps$Method" 9 2 1 true := ⟨_, _, _, rfl, by decide, tw_303, rfl, rfl⟩
set_option maxRecDepth 100000 in
theorem fl_Method_15 : xfl "SeldomOps$Method" 15 2 2 false := ⟨_, _, _, rfl, by decide, tw_306, rfl, rfl⟩
set_option maxRecDepth 100000 in
theorem fl_Method_19 : xfl "SeldomOps$Method" 19 2 3 false := ⟨_, _, _, rfl, by decide, tw_310, rfl, rfl⟩
set_option maxRecDepth 100000 in
theorem fl_Method_22 : xfl "SeldomOps$Method" 22 2 4 true := ⟨_, _, _, rfl, by decide, tw_313, rfl, rfl⟩
set_option maxRecDepth 100000 in
theorem fl_Method_25 : xfl "SeldomOps$Method" 25 2 5 true := ⟨_, _, _, rfl, by decide, tw_316, rfl, rfl⟩
set_option maxRecDepth 100000 in
theorem fl_Method_28 : xfl "SeldomOps$Method" 28 2 6 true := ⟨_, _, _, rfl, by decide, tw_319, rfl, rfl⟩
set_option maxRecDepth 100000 in
theorem fl_Method_31 : xfl "SeldomOps$Method" 31 2 7 false := ⟨_, _, _, rfl, by decide, tw_322, rfl, rfl⟩
set_option maxRecDepth 100000 in
theorem fl_Method_34 : xfl "SeldomOps$Method" 34 2 8 true := ⟨_, _, _, rfl, by decide, tw_325, rfl, rfl⟩
set_option maxRecDepth 100000 in
theorem fl_Method_37 : xfl "SeldomOps$Method" 37 2 9 true := ⟨_, _, _, rfl, by decide, tw_326, rfl, rfl⟩
set_option maxRecDepth 100000 in
theorem fl_Method_40 : xfl "SeldomOps$Method" 40 2 10 true := ⟨_, _, _, rfl, by decide, tw_327, rfl, rfl⟩
set_option maxRecDepth 100000 in
theorem fl_Method_43 : xfl "SeldomOps$Method" 43 2 11 true := ⟨_, _, _, rfl, by decide, tw_329, rfl, rfl⟩
set_option maxRecDepth 100000 in
theorem fl_Method_46 : xfl "SeldomOps$Method" 46 2 12 false := ⟨_, _, _, rfl, by decide, tw_330, rfl, rfl⟩
set_option maxRecDepth 100000 in
theorem fl_Method_52 : xfl "SeldomOps$Method" 52 2 13 true := ⟨_, _, _, rfl, by decide, tw_333, rfl, rfl⟩
set_option maxRecDepth 100000 in
theorem fl_Method_56 : xfl "SeldomOps$Method" 56 2 14 false := ⟨_, _, _, rfl, by decide, tw_336, rfl, rfl⟩
set_option maxRecDepth 100000 in
theorem fl_Method_60 : xfl "SeldomOps$Method" 60 2 15 false := ⟨_, _, _, rfl, by decide, tw_340, rfl, rfl⟩
set_option maxRecDepth 100000 in
theorem fl_Method_63 : xfl "SeldomOps$Method" 63 2 0 true := ⟨_, _, _, rfl, by decide, tw_300, rfl, rfl⟩
set_option maxRecDepth 100000 in
theorem fl_Program_11 : xfl "SeldomOps$Program" 11 3 0 true := ⟨_, _, _, rfl, by decide, tw_34, rfl, rfl⟩
set_option maxRecDepth 100000 in
theorem fl_Program_17 : xfl "SeldomOps$Program" 17 3 1 false := ⟨_, _, _, rfl, by decide, tw_35, rfl, rfl⟩
set_option maxRecDepth 100000 in
theorem fl_Program_21 : xfl "SeldomOps$Program" 21 3 2 true := ⟨_, _, _, rfl, by decide, tw_38, rfl, rfl⟩
set_option maxRecDepth 100000 in
theorem fl_Program_25 : xfl "SeldomOps$Program" 25 3 3 false := ⟨_, _, _, rfl, by decide, tw_39, rfl, rfl⟩
set_option maxRecDepth 100000 in
theorem fl_Program_30 : xfl "SeldomOps$Program" 30 3 4 true := ⟨_, _, _, rfl, by decide, tw_42, rfl, rfl⟩
set_option maxRecDepth 100000 in
theorem fl_Program_34 : xfl "SeldomOps$Program" 34 3 5 false := ⟨_, _, _, rfl, by decide, tw_43, rfl, rfl⟩
set_option maxRecDepth 100000 in
theorem fl_Program_47 : xfl "SeldomOps$Program" 47 2 14 false := ⟨_, _, _, rfl, by decide, tw_338, rfl, rfl⟩
set_option maxRecDepth 100000 in
theorem fl_Program_51 : xfl "SeldomOps$Program" 51 2 15 false := ⟨_, _, _, rfl, by decide, tw_342, rfl, rfl⟩
set_option maxRecDepth 100000 in
theorem fl_Shape_12 : xfl "SeldomOps$Shape" 12 4 0 true := ⟨_, _, _, rfl, by decide, tw_90, rfl, rfl⟩
set_option maxRecDepth 100000 in
theorem fl_Shape_18 : xfl "SeldomOps$Shape" 18 4 1 true := ⟨_, _, _, rfl, by decide, tw_93, rfl, rfl⟩
set_option maxRecDepth 100000 in
theorem fl_Shape_37 : xfl "SeldomOps$Shape" 37 9 1 false := ⟨_, _, _, rfl, by decide, tw_81, rfl, rfl⟩
set_option maxRecDepth 100000 in
theorem fl_Shapes_9 : xfl "SeldomOps$Shapes" 9 5 0 true := ⟨_, _, _, rfl, by decide, tw_285, rfl, rfl⟩
set_option maxRecDepth 100000 in
theorem fl_Shapes_15 : xfl "SeldomOps$Shapes" 15 5 1 true := ⟨_, _, _, rfl, by decide, tw_286, rfl, rfl⟩
set_option maxRecDepth 100000 in
theorem fl_Shapes_19 : xfl "SeldomOps$Shapes" 19 5 2 true := ⟨_, _, _, rfl, by decide, tw_287, rfl, rfl⟩
set_option maxRecDepth 100000 in
theorem fl_Shapes_22 : xfl "SeldomOps$Shapes" 22 5 3 true := ⟨_, _, _, rfl, by decide, tw_288, rfl, rfl⟩
set_option maxRecDepth 100000 in
theorem fl_Shapes_26 : xfl "SeldomOps$Shapes" 26 4 0 true := ⟨_, _, _, rfl, by decide, tw_92, rfl, rfl⟩
set_option maxRecDepth 100000 in
theorem fl_Shapes_32 : xfl "SeldomOps$Shapes" 32 9 1 false := ⟨_, _, _, rfl, by decide, tw_83, rfl, rfl⟩
set_option maxRecDepth 100000 in
theorem fl_Shapes_38 : xfl "SeldomOps$Shapes" 38 9 0 true := ⟨_, _, _, rfl, by decide, tw_79, rfl, rfl⟩
set_option maxRecDepth 100000 in
theorem fl_Shapes_47 : xfl "SeldomOps$Shapes" 47 4 1 true := ⟨_, _, _, rfl, by decide, tw_95, rfl, rfl⟩
set_option maxRecDepth 100000 in
theorem fl_Table_9 : xfl "SeldomOps$Table" 9 6 3 true := ⟨_, _, _, rfl, by decide, tw_442, rfl, rfl⟩
set_option maxRecDepth 100000 in
theorem fl_Table_15 : xfl "SeldomOps$Table" 15 6 4 true := ⟨_, _, _, rfl, by decide, tw_443, rfl, rfl⟩
set_option maxRecDepth 100000 in
theorem fl_Table_18 : xfl "SeldomOps$Table" 18 6 5 false := ⟨_, _, _, rfl, by decide, tw_445, rfl, rfl⟩
set_option maxRecDepth 100000 in
theorem fl_Table_22 : xfl "SeldomOps$Table" 22 6 0 true := ⟨_, _, _, rfl, by decide, tw_438, rfl, rfl⟩
set_option maxRecDepth 100000 in
theorem fl_Table_26 : xfl "SeldomOps$Table" 26 6 1 true := ⟨_, _, _, rfl, by decide, tw_439, rfl, rfl⟩
set_option maxRecDepth 100000 in
theorem fl_Table_29 : xfl "SeldomOps$Table" 29 6 2 true := ⟨_, _, _, rfl, by decide, tw_440, rfl, rfl⟩
set_option maxRecDepth 100000 in
theorem fl_Things_9 : xfl "SeldomOps$Things" 9 7 0 true := ⟨_, _, _, rfl, by decide, tw_134, rfl, rfl⟩
set_option maxRecDepth 100000 in
theorem fl_Things_15 : xfl "SeldomOps$Things" 15 7 1 true := ⟨_, _, _, rfl, by decide, tw_135, rfl, rfl⟩
set_option maxRecDepth 100000 in
theorem fl_Things_18 : xfl "SeldomOps$Things" 18 7 2 true := ⟨_, _, _, rfl, by decide, tw_137, rfl, rfl⟩
set_option maxRecDepth 100000 in
theorem fl_Things_21 : xfl "SeldomOps$Things" 21 7 3 true := ⟨_, _, _, rfl, by decide, tw_139, rfl, rfl⟩
set_option maxRecDepth 100000 in
theorem fl_Things_25 : xfl "SeldomOps$Things" 25 7 4 false := ⟨_, _, _, rfl, by decide, tw_140, rfl, rfl⟩
set_option maxRecDepth 100000 in
theorem fl_Walker_12 : xfl "SeldomOps$Walker" 12 8 1 true := ⟨_, _, _, rfl, by decide, tw_196, rfl, rfl⟩
set_option maxRecDepth 100000 in
theorem fl_Walker_20 : xfl "SeldomOps$Walker" 20 8 2 true := ⟨_, _, _, rfl, by decide, tw_198, rfl, rfl⟩
set_option maxRecDepth 100000 in
theorem fl_Walker_24 : xfl "SeldomOps$Walker" 24 8 3 true := ⟨_, _, _, rfl, by decide, tw_199, rfl, rfl⟩
set_option maxRecDepth 100000 in
theorem fl_Walker_28 : xfl "SeldomOps$Walker" 28 8 4 false := ⟨_, _, _, rfl, by decide, tw_200, rfl, rfl⟩
set_option maxRecDepth 100000 in
theorem fl_Walker_32 : xfl "SeldomOps$Walker" 32 8 5 false := ⟨_, _, _, rfl, by decide, tw_201, rfl, rfl⟩
set_option maxRecDepth 100000 in
theorem fl_Walker_36 : xfl "SeldomOps$Walker" 36 8 6 false := ⟨_, _, _, rfl, by decide, tw_203, rfl, rfl⟩
set_option maxRecDepth 100000 in
theorem fl_Walker_40 : xfl "SeldomOps$Walker" 40 8 7 false := ⟨_, _, _, rfl, by decide, tw_204, rfl, rfl⟩
set_option maxRecDepth 100000 in
theorem fl_Walker_43 : xfl "SeldomOps$Walker" 43 8 8 false := ⟨_, _, _, rfl, by decide, tw_205, rfl, rfl⟩
set_option maxRecDepth 100000 in
theorem fl_Walker_46 : xfl "SeldomOps$Walker" 46 8 9 false := ⟨_, _, _, rfl, by decide, tw_206, rfl, rfl⟩
set_option maxRecDepth 100000 in
theorem fl_Walker_49 : xfl "SeldomOps$Walker" 49 8 10 false := ⟨_, _, _, rfl, by decide, tw_207, rfl, rfl⟩
set_option maxRecDepth 100000 in
theorem fl_Walker_52 : xfl "SeldomOps$Walker" 52 8 11 false := ⟨_, _, _, rfl, by decide, tw_208, rfl, rfl⟩
set_option maxRecDepth 100000 in
theorem fl_Walker_55 : xfl "SeldomOps$Walker" 55 8 12 false := ⟨_, _, _, rfl, by decide, tw_209, rfl, rfl⟩
set_option maxRecDepth 100000 in
theorem fl_Walker_58 : xfl "SeldomOps$Walker" 58 8 13 false := ⟨_, _, _, rfl, by decide, tw_210, rfl, rfl⟩
set_option maxRecDepth 100000 in
theorem fl_Walker_61 : xfl "SeldomOps$Walker" 61 8 14 false := ⟨_, _, _, rfl, by decide, tw_211, rfl, rfl⟩
set_option maxRecDepth 100000 in
theorem fl_Walker_64 : xfl "SeldomOps$Walker" 64 8 0 true := ⟨_, _, _, rfl, by decide, tw_195, rfl, rfl⟩
set_option maxRecDepth 100000 in
theorem fl_Walker_76 : xfl "SeldomOps$Walker" 76 2 2 false := ⟨_, _, _, rfl, by decide, tw_307, rfl, rfl⟩
set_option maxRecDepth 100000 in
theorem fl_Walker_81 : xfl "SeldomOps$Walker" 81 2 1 true := ⟨_, _, _, rfl, by decide, tw_304, rfl, rfl⟩
set_option maxRecDepth 100000 in
theorem fl_Walker_96 : xfl "SeldomOps$Walker" 96 0 2 false := ⟨_, _, _, rfl, by decide, tw_168, rfl, rfl⟩
set_option maxRecDepth 100000 in
theorem fl_Walker_99 : xfl "SeldomOps$Walker" 99 0 3 false := ⟨_, _, _, rfl, by decide, tw_170, rfl, rfl⟩
set_option maxRecDepth 100000 in
theorem fl_Walker_102 : xfl "SeldomOps$Walker" 102 0 1 false := ⟨_, _, _, rfl, by decide, tw_166, rfl, rfl⟩
set_option maxRecDepth 100000 in
theorem fl_Walker_106 : xfl "SeldomOps$Walker" 106 2 4 true := ⟨_, _, _, rfl, by decide, tw_314, rfl, rfl⟩
set_option maxRecDepth 100000 in
theorem fl_Walker_109 : xfl "SeldomOps$Walker" 109 2 5 true := ⟨_, _, _, rfl, by decide, tw_317, rfl, rfl⟩
set_option maxRecDepth 100000 in
theorem fl_Walker_112 : xfl "SeldomOps$Walker" 112 2 6 true := ⟨_, _, _, rfl, by decide, tw_320, rfl, rfl⟩
set_option maxRecDepth 100000 in
theorem fl_Walker_119 : xfl "SeldomOps$Walker" 119 0 0 false := ⟨_, _, _, rfl, by decide, tw_164, rfl, rfl⟩
set_option maxRecDepth 100000 in
theorem fl_Walker_126 : xfl "SeldomOps$Walker" 126 0 4 true := ⟨_, _, _, rfl, by decide, tw_172, rfl, rfl⟩
set_option maxRecDepth 100000 in
theorem fl_Walker_130 : xfl "SeldomOps$Walker" 130 9 1 false := ⟨_, _, _, rfl, by decide, tw_82, rfl, rfl⟩
set_option maxRecDepth 100000 in
theorem fl_Walker_145 : xfl "SeldomOps$Walker" 145 7 4 false := ⟨_, _, _, rfl, by decide, tw_141, rfl, rfl⟩
set_option maxRecDepth 100000 in
theorem fl_Walker_298 : xfl "SeldomOps$Walker" 298 7 1 true := ⟨_, _, _, rfl, by decide, tw_136, rfl, rfl⟩
set_option maxRecDepth 100000 in
theorem fl_Walker_307 : xfl "SeldomOps$Walker" 307 0 6 true := ⟨_, _, _, rfl, by decide, tw_175, rfl, rfl⟩
set_option maxRecDepth 100000 in
theorem fl_Walker_310 : xfl "SeldomOps$Walker" 310 0 7 false := ⟨_, _, _, rfl, by decide, tw_177, rfl, rfl⟩
set_option maxRecDepth 100000 in
theorem fl_Walker_313 : xfl "SeldomOps$Walker" 313 7 2 true := ⟨_, _, _, rfl, by decide, tw_138, rfl, rfl⟩
set_option maxRecDepth 100000 in
theorem fl_Walker_314 : xfl "SeldomOps$Walker" 314 2 0 true := ⟨_, _, _, rfl, by decide, tw_302, rfl, rfl⟩
set_option maxRecDepth 100000 in
theorem fl_Walker_321 : xfl "SeldomOps$Walker" 321 2 3 false := ⟨_, _, _, rfl, by decide, tw_312, rfl, rfl⟩
set_option maxRecDepth 100000 in
theorem fl_Words_9 : xfl "SeldomOps$Words" 9 9 0 true := ⟨_, _, _, rfl, by decide, tw_78, rfl, rfl⟩
set_option maxRecDepth 100000 in
theorem fl_Words_15 : xfl "SeldomOps$Words" 15 9 1 false := ⟨_, _, _, rfl, by decide, tw_80, rfl, rfl⟩
set_option maxRecDepth 100000 in
theorem fl_SeldomOpsModel_7 : xfl "SeldomOpsModel" 7 11 1 true := ⟨_, _, _, rfl, by decide, tw_968, rfl, rfl⟩
set_option maxRecDepth 100000 in
theorem fl_SeldomOpsModel_13 : xfl "SeldomOpsModel" 13 11 2 true := ⟨_, _, _, rfl, by decide, tw_969, rfl, rfl⟩
set_option maxRecDepth 100000 in
theorem fl_SeldomOpsModel_16 : xfl "SeldomOpsModel" 16 11 3 true := ⟨_, _, _, rfl, by decide, tw_970, rfl, rfl⟩
set_option maxRecDepth 100000 in
theorem fl_SeldomOpsModel_19 : xfl "SeldomOpsModel" 19 11 4 true := ⟨_, _, _, rfl, by decide, tw_971, rfl, rfl⟩
set_option maxRecDepth 100000 in
theorem fl_SeldomOpsModel_22 : xfl "SeldomOpsModel" 22 11 5 true := ⟨_, _, _, rfl, by decide, tw_972, rfl, rfl⟩
set_option maxRecDepth 100000 in
theorem fl_SeldomOpsModel_25 : xfl "SeldomOpsModel" 25 11 6 true := ⟨_, _, _, rfl, by decide, tw_973, rfl, rfl⟩
set_option maxRecDepth 100000 in
theorem fl_SeldomOpsModel_28 : xfl "SeldomOpsModel" 28 11 7 true := ⟨_, _, _, rfl, by decide, tw_974, rfl, rfl⟩
set_option maxRecDepth 100000 in
theorem fl_SeldomOpsModel_31 : xfl "SeldomOpsModel" 31 11 8 true := ⟨_, _, _, rfl, by decide, tw_975, rfl, rfl⟩
set_option maxRecDepth 100000 in
theorem fl_SeldomOpsModel_34 : xfl "SeldomOpsModel" 34 11 9 true := ⟨_, _, _, rfl, by decide, tw_976, rfl, rfl⟩
set_option maxRecDepth 100000 in
theorem fl_SeldomOpsModel_37 : xfl "SeldomOpsModel" 37 11 10 true := ⟨_, _, _, rfl, by decide, tw_977, rfl, rfl⟩
set_option maxRecDepth 100000 in
theorem fl_SeldomOpsModel_40 : xfl "SeldomOpsModel" 40 11 11 true := ⟨_, _, _, rfl, by decide, tw_978, rfl, rfl⟩
set_option maxRecDepth 100000 in
theorem fl_SeldomOpsModel_43 : xfl "SeldomOpsModel" 43 11 12 true := ⟨_, _, _, rfl, by decide, tw_979, rfl, rfl⟩
set_option maxRecDepth 100000 in
theorem fl_SeldomOpsModel_46 : xfl "SeldomOpsModel" 46 11 13 true := ⟨_, _, _, rfl, by decide, tw_980, rfl, rfl⟩
set_option maxRecDepth 100000 in
theorem fl_SeldomOpsModel_49 : xfl "SeldomOpsModel" 49 11 14 true := ⟨_, _, _, rfl, by decide, tw_981, rfl, rfl⟩
set_option maxRecDepth 100000 in
theorem fl_SeldomOpsModel_53 : xfl "SeldomOpsModel" 53 11 16 true := ⟨_, _, _, rfl, by decide, tw_983, rfl, rfl⟩
set_option maxRecDepth 100000 in
theorem fl_SeldomOpsModel_57 : xfl "SeldomOpsModel" 57 11 18 true := ⟨_, _, _, rfl, by decide, tw_985, rfl, rfl⟩
set_option maxRecDepth 100000 in
theorem fl_SeldomOpsModel_60 : xfl "SeldomOpsModel" 60 11 19 true := ⟨_, _, _, rfl, by decide, tw_986, rfl, rfl⟩
set_option maxRecDepth 100000 in
theorem fl_SeldomOpsModel_63 : xfl "SeldomOpsModel" 63 11 20 true := ⟨_, _, _, rfl, by decide, tw_987, rfl, rfl⟩
set_option maxRecDepth 100000 in
theorem fl_SeldomOpsModel_66 : xfl "SeldomOpsModel" 66 11 21 true := ⟨_, _, _, rfl, by decide, tw_988, rfl, rfl⟩
set_option maxRecDepth 100000 in
theorem fl_SeldomOpsModel_69 : xfl "SeldomOpsModel" 69 11 22 true := ⟨_, _, _, rfl, by decide, tw_989, rfl, rfl⟩
set_option maxRecDepth 100000 in
theorem fl_SeldomOpsModel_72 : xfl "SeldomOpsModel" 72 11 23 true := ⟨_, _, _, rfl, by decide, tw_990, rfl, rfl⟩
set_option maxRecDepth 100000 in
theorem fl_SeldomOpsModel_75 : xfl "SeldomOpsModel" 75 11 24 true := ⟨_, _, _, rfl, by decide, tw_991, rfl, rfl⟩
set_option maxRecDepth 100000 in
theorem fl_SeldomOpsModel_78 : xfl "SeldomOpsModel" 78 11 25 true := ⟨_, _, _, rfl, by decide, tw_992, rfl, rfl⟩
set_option maxRecDepth 100000 in
theorem fl_SeldomOpsModel_81 : xfl "SeldomOpsModel" 81 11 26 true := ⟨_, _, _, rfl, by decide, tw_993, rfl, rfl⟩
set_option maxRecDepth 100000 in
theorem fl_SeldomOpsModel_84 : xfl "SeldomOpsModel" 84 11 27 true := ⟨_, _, _, rfl, by decide, tw_994, rfl, rfl⟩
set_option maxRecDepth 100000 in
theorem fl_SeldomOpsModel_87 : xfl "SeldomOpsModel" 87 11 28 true := ⟨_, _, _, rfl, by decide, tw_995, rfl, rfl⟩
set_option maxRecDepth 100000 in
theorem fl_SeldomOpsModel_90 : xfl "SeldomOpsModel" 90 11 30 true := ⟨_, _, _, rfl, by decide, tw_997, rfl, rfl⟩
set_option maxRecDepth 100000 in
theorem fl_SeldomOpsModel_93 : xfl "SeldomOpsModel" 93 11 31 true := ⟨_, _, _, rfl, by decide, tw_998, rfl, rfl⟩
set_option maxRecDepth 100000 in
theorem fl_SeldomOpsModel_96 : xfl "SeldomOpsModel" 96 11 32 false := ⟨_, _, _, rfl, by decide, tw_999, rfl, rfl⟩
set_option maxRecDepth 100000 in
theorem fl_SeldomOpsModel_100 : xfl "SeldomOpsModel" 100 11 33 false := ⟨_, _, _, rfl, by decide, tw_1000, rfl, rfl⟩
set_option maxRecDepth 100000 in
theorem fl_SeldomOpsModel_103 : xfl "SeldomOpsModel" 103 11 35 true := ⟨_, _, _, rfl, by decide, tw_1002, rfl, rfl⟩
set_option maxRecDepth 100000 in
theorem fl_SeldomOpsModel_106 : xfl "SeldomOpsModel" 106 11 36 true := ⟨_, _, _, rfl, by decide, tw_1003, rfl, rfl⟩
set_option maxRecDepth 100000 in
theorem fl_SeldomOpsModel_109 : xfl "SeldomOpsModel" 109 11 38 true := ⟨_, _, _, rfl, by decide, tw_1005, rfl, rfl⟩
set_option maxRecDepth 100000 in
theorem fl_SeldomOpsModel_112 : xfl "SeldomOpsModel" 112 11 39 true := ⟨_, _, _, rfl, by decide, tw_1006, rfl, rfl⟩
set_option maxRecDepth 100000 in
theorem fl_SeldomOpsModel_115 : xfl "SeldomOpsModel" 115 11 41 true := ⟨_, _, _, rfl, by decide, tw_1008, rfl, rfl⟩
set_option maxRecDepth 100000 in
theorem fl_SeldomOpsModel_118 : xfl "SeldomOpsModel" 118 11 42 true := ⟨_, _, _, rfl, by decide, tw_1009, rfl, rfl⟩
set_option maxRecDepth 100000 in
theorem fl_SeldomOpsModel_121 : xfl "SeldomOpsModel" 121 11 43 true := ⟨_, _, _, rfl, by decide, tw_1010, rfl, rfl⟩
set_option maxRecDepth 100000 in
theorem fl_SeldomOpsModel_124 : xfl "SeldomOpsModel" 124 11 44 true := ⟨_, _, _, rfl, by decide, tw_1011, rfl, rfl⟩
set_option maxRecDepth 100000 in
theorem fl_SeldomOpsModel_127 : xfl "SeldomOpsModel" 127 11 45 true := ⟨_, _, _, rfl, by decide, tw_1012, rfl, rfl⟩
set_option maxRecDepth 100000 in
theorem fl_SeldomOpsModel_130 : xfl "SeldomOpsModel" 130 11 48 true := ⟨_, _, _, rfl, by decide, tw_1015, rfl, rfl⟩
set_option maxRecDepth 100000 in
theorem fl_SeldomOpsModel_133 : xfl "SeldomOpsModel" 133 11 49 true := ⟨_, _, _, rfl, by decide, tw_1016, rfl, rfl⟩
set_option maxRecDepth 100000 in
theorem fl_SeldomOpsModel_136 : xfl "SeldomOpsModel" 136 11 50 true := ⟨_, _, _, rfl, by decide, tw_1017, rfl, rfl⟩
set_option maxRecDepth 100000 in
theorem fl_SeldomOpsModel_139 : xfl "SeldomOpsModel" 139 11 51 true := ⟨_, _, _, rfl, by decide, tw_1018, rfl, rfl⟩
set_option maxRecDepth 100000 in
theorem fl_SeldomOpsModel_142 : xfl "SeldomOpsModel" 142 11 52 true := ⟨_, _, _, rfl, by decide, tw_1019, rfl, rfl⟩
set_option maxRecDepth 100000 in
theorem fl_SeldomOpsModel_145 : xfl "SeldomOpsModel" 145 11 53 true := ⟨_, _, _, rfl, by decide, tw_1020, rfl, rfl⟩
set_option maxRecDepth 100000 in
theorem fl_SeldomOpsModel_148 : xfl "SeldomOpsModel" 148 11 0 false := ⟨_, _, _, rfl, by decide, tw_967, rfl, rfl⟩
set_option maxRecDepth 100000 in
theorem fl_SeldomOpsModel_184 : xfl "SeldomOpsModel" 184 11 15 false := ⟨_, _, _, rfl, by decide, tw_982, rfl, rfl⟩
set_option maxRecDepth 100000 in
theorem fl_SeldomOpsModel_187 : xfl "SeldomOpsModel" 187 11 17 false := ⟨_, _, _, rfl, by decide, tw_984, rfl, rfl⟩
set_option maxRecDepth 100000 in
theorem fl_SeldomOpsModel_190 : xfl "SeldomOpsModel" 190 11 34 false := ⟨_, _, _, rfl, by decide, tw_1001, rfl, rfl⟩
set_option maxRecDepth 100000 in
theorem fl_SeldomOpsModel_212 : xfl "SeldomOpsModel" 212 11 29 false := ⟨_, _, _, rfl, by decide, tw_996, rfl, rfl⟩
set_option maxRecDepth 100000 in
theorem fl_SeldomOpsModel_272 : xfl "SeldomOpsModel" 272 11 37 false := ⟨_, _, _, rfl, by decide, tw_1004, rfl, rfl⟩
set_option maxRecDepth 100000 in
theorem fl_SeldomOpsModel_284 : xfl "SeldomOpsModel" 284 11 47 false := ⟨_, _, _, rfl, by decide, tw_1014, rfl, rfl⟩
set_option maxRecDepth 100000 in
theorem fl_SeldomOpsModel_287 : xfl "SeldomOpsModel" 287 11 60 false := ⟨_, _, _, rfl, by decide, tw_1027, rfl, rfl⟩
set_option maxRecDepth 100000 in
theorem fl_SeldomOpsModel_292 : xfl "SeldomOpsModel" 292 11 54 false := ⟨_, _, _, rfl, by decide, tw_1021, rfl, rfl⟩
set_option maxRecDepth 100000 in
theorem fl_SeldomOpsModel_296 : xfl "SeldomOpsModel" 296 11 40 false := ⟨_, _, _, rfl, by decide, tw_1007, rfl, rfl⟩
set_option maxRecDepth 100000 in
theorem fl_SeldomOpsModel_299 : xfl "SeldomOpsModel" 299 11 46 false := ⟨_, _, _, rfl, by decide, tw_1013, rfl, rfl⟩
set_option maxRecDepth 100000 in
theorem fl_SeldomOpsModel_302 : xfl "SeldomOpsModel" 302 11 56 false := ⟨_, _, _, rfl, by decide, tw_1023, rfl, rfl⟩
set_option maxRecDepth 100000 in
theorem fl_SeldomOpsModel_305 : xfl "SeldomOpsModel" 305 11 57 false := ⟨_, _, _, rfl, by decide, tw_1024, rfl, rfl⟩
set_option maxRecDepth 100000 in
theorem fl_SeldomOpsModel_308 : xfl "SeldomOpsModel" 308 11 58 false := ⟨_, _, _, rfl, by decide, tw_1025, rfl, rfl⟩
set_option maxRecDepth 100000 in
theorem fl_SeldomOpsModel_311 : xfl "SeldomOpsModel" 311 11 59 false := ⟨_, _, _, rfl, by decide, tw_1026, rfl, rfl⟩
set_option maxRecDepth 100000 in
theorem fl_SeldomOpsModel_314 : xfl "SeldomOpsModel" 314 11 61 false := ⟨_, _, _, rfl, by decide, tw_1028, rfl, rfl⟩
set_option maxRecDepth 100000 in
theorem fl_SeldomOpsModel_317 : xfl "SeldomOpsModel" 317 11 62 false := ⟨_, _, _, rfl, by decide, tw_1029, rfl, rfl⟩
set_option maxRecDepth 100000 in
theorem fl_SeldomOpsModel_320 : xfl "SeldomOpsModel" 320 11 63 false := ⟨_, _, _, rfl, by decide, tw_1030, rfl, rfl⟩
set_option maxRecDepth 100000 in
theorem fl_SeldomOpsModel_323 : xfl "SeldomOpsModel" 323 11 55 false := ⟨_, _, _, rfl, by decide, tw_1022, rfl, rfl⟩
set_option maxRecDepth 100000 in
theorem fl_SeldomOpsModel_330 : xfl "SeldomOpsModel" 330 11 64 false := ⟨_, _, _, rfl, by decide, tw_1031, rfl, rfl⟩
set_option maxRecDepth 100000 in
theorem fl_SeldomOpsModel_333 : xfl "SeldomOpsModel" 333 11 65 false := ⟨_, _, _, rfl, by decide, tw_1032, rfl, rfl⟩
set_option maxRecDepth 100000 in
theorem fl_SeldomOpsModel_363 : xfl "SeldomOpsModel" 363 11 66 false := ⟨_, _, _, rfl, by decide, tw_1033, rfl, rfl⟩
set_option maxRecDepth 100000 in
theorem nw_SeldomOps_7 : ∃ C T N, vwCl[3]? = some (C, T, N) ∧ Cond.classLink "SeldomOps" 7 C ∈ xws ∧ Cond.instantiable C N ∈ xws ∧ Cond.initialized C ∈ xws := ⟨_, _, _, rfl, tw_24, tw_25, tw_2⟩
set_option maxRecDepth 100000 in
theorem nw_SeldomOps_16 : ∃ C T N, vwCl[1]? = some (C, T, N) ∧ Cond.classLink "SeldomOps" 16 C ∈ xws ∧ Cond.instantiable C N ∈ xws ∧ Cond.initialized C ∈ xws := ⟨_, _, _, rfl, tw_60, tw_61, tw_3⟩
set_option maxRecDepth 100000 in
theorem nw_SeldomOps_25 : ∃ C T N, vwCl[8]? = some (C, T, N) ∧ Cond.classLink "SeldomOps" 25 C ∈ xws ∧ Cond.instantiable C N ∈ xws ∧ Cond.initialized C ∈ xws := ⟨_, _, _, rfl, tw_122, tw_123, tw_6⟩
set_option maxRecDepth 100000 in
theorem nw_Call_25 : ∃ C T N, vwCl[9]? = some (C, T, N) ∧ Cond.classLink "SeldomOps$Call" 25 C ∈ xws ∧ Cond.instantiable C N ∈ xws ∧ Cond.initialized C ∈ xws := ⟨_, _, _, rfl, tw_161, tw_73, tw_5⟩
set_option maxRecDepth 100000 in
theorem nw_Judge_9 : ∃ C T N, vwCl[4]? = some (C, T, N) ∧ Cond.classLink "SeldomOps$Judge" 9 C ∈ xws ∧ Cond.instantiable C N ∈ xws ∧ Cond.initialized C ∈ xws := ⟨_, _, _, rfl, tw_66, tw_67, tw_4⟩
set_option maxRecDepth 100000 in
theorem nw_Method_49 : ∃ C T N, vwCl[5]? = some (C, T, N) ∧ Cond.classLink "SeldomOps$Method" 49 C ∈ xws ∧ Cond.instantiable C N ∈ xws ∧ Cond.initialized C ∈ xws := ⟨_, _, _, rfl, tw_279, tw_280, tw_11⟩
set_option maxRecDepth 100000 in
theorem nw_Program_9 : ∃ C T N, vwCl[2]? = some (C, T, N) ∧ Cond.classLink "SeldomOps$Program" 9 C ∈ xws ∧ Cond.instantiable C N ∈ xws ∧ Cond.initialized C ∈ xws := ⟨_, _, _, rfl, tw_30, tw_274, tw_10⟩
set_option maxRecDepth 100000 in
theorem nw_Program_28 : ∃ C T N, vwCl[6]? = some (C, T, N) ∧ Cond.classLink "SeldomOps$Program" 28 C ∈ xws ∧ Cond.instantiable C N ∈ xws ∧ Cond.initialized C ∈ xws := ⟨_, _, _, rfl, tw_32, tw_433, tw_12⟩
set_option maxRecDepth 100000 in
theorem nw_Shape_9 : ∃ C T N, vwCl[9]? = some (C, T, N) ∧ Cond.classLink "SeldomOps$Shape" 9 C ∈ xws ∧ Cond.instantiable C N ∈ xws ∧ Cond.initialized C ∈ xws := ⟨_, _, _, rfl, tw_72, tw_73, tw_5⟩
set_option maxRecDepth 100000 in
theorem nw_Walker_9 : ∃ C T N, vwCl[7]? = some (C, T, N) ∧ Cond.classLink "SeldomOps$Walker" 9 C ∈ xws ∧ Cond.instantiable C N ∈ xws ∧ Cond.initialized C ∈ xws := ⟨_, _, _, rfl, tw_128, tw_129, tw_7⟩
set_option maxRecDepth 100000 in
theorem nw_Walker_18 : ∃ C T N, vwCl[0]? = some (C, T, N) ∧ Cond.classLink "SeldomOps$Walker" 18 C ∈ xws ∧ Cond.instantiable C N ∈ xws ∧ Cond.initialized C ∈ xws := ⟨_, _, _, rfl, tw_154, tw_156, tw_8⟩
set_option maxRecDepth 100000 in
theorem mk_X0_begin : xmk mX0_begin 2 := ⟨tw_725, tw_8, ⟨by decide, by decide, by decide +kernel⟩, by decide⟩
set_option maxRecDepth 100000 in
theorem mk_X0_init : xmk mX0_init 0 := ⟨tw_159, tw_8, ⟨by decide, by decide, by decide +kernel⟩, by decide⟩
set_option maxRecDepth 100000 in
theorem mk_X0_readLocal : xmk mX0_readLocal 1 := ⟨tw_767, tw_8, ⟨by decide, by decide, by decide +kernel⟩, by decide⟩
set_option maxRecDepth 100000 in
theorem mk_X0_writeLocal : xmk mX0_writeLocal 2 := ⟨tw_735, tw_8, ⟨by decide, by decide, by decide +kernel⟩, by decide⟩
set_option maxRecDepth 100000 in
theorem mk_X10_at : xmk mX10_at 1 := ⟨tw_541, tw_5, ⟨by decide, by decide, by decide +kernel⟩, by decide⟩
set_option maxRecDepth 100000 in
theorem mk_X10_clear : xmk mX10_clear 0 := ⟨tw_496, tw_5, ⟨by decide, by decide, by decide +kernel⟩, by decide⟩
set_option maxRecDepth 100000 in
theorem mk_X10_copyUnder : xmk mX10_copyUnder 2 := ⟨tw_658, tw_5, ⟨by decide, by decide, by decide +kernel⟩, by decide⟩
set_option maxRecDepth 100000 in
theorem mk_X10_drop : xmk mX10_drop 1 := ⟨tw_591, tw_5, ⟨by decide, by decide, by decide +kernel⟩, by decide⟩
set_option maxRecDepth 100000 in
theorem mk_X10_init : xmk mX10_init 0 := ⟨tw_76, tw_5, ⟨by decide, by decide, by decide +kernel⟩, by decide⟩
set_option maxRecDepth 100000 in
theorem mk_X10_move : xmk mX10_move 1 := ⟨tw_646, tw_5, ⟨by decide, by decide, by decide +kernel⟩, by decide⟩
set_option maxRecDepth 100000 in
theorem mk_X10_pop : xmk mX10_pop 0 := ⟨tw_652, tw_5, ⟨by decide, by decide, by decide +kernel⟩, by decide⟩
set_option maxRecDepth 100000 in
theorem mk_X10_popBits : xmk mX10_popBits 1 := ⟨tw_771, tw_5, ⟨by decide, by decide, by decide +kernel⟩, by decide⟩
set_option maxRecDepth 100000 in
theorem mk_X10_popInt : xmk mX10_popInt 0 := ⟨tw_811, tw_5, ⟨by decide, by decide, by decide +kernel⟩, by decide⟩
set_option maxRecDepth 100000 in
theorem mk_X10_push : xmk mX10_push 1 := ⟨tw_642, tw_5, ⟨by decide, by decide, by decide +kernel⟩, by decide⟩
set_option maxRecDepth 100000 in
theorem mk_X10_pushBits : xmk mX10_pushBits 2 := ⟨tw_757, tw_5, ⟨by decide, by decide, by decide +kernel⟩, by decide⟩
set_option maxRecDepth 100000 in
theorem mk_X11_endOf : xmk mX11_endOf 1 := ⟨tw_510, tw_1, ⟨by decide, by decide, by decide +kernel⟩, by decide⟩
set_option maxRecDepth 100000 in
theorem mk_X11_isEnd : xmk mX11_isEnd 1 := ⟨tw_624, tw_1, ⟨by decide, by decide, by decide +kernel⟩, by decide⟩
set_option maxRecDepth 100000 in
theorem mk_X11_isType : xmk mX11_isType 1 := ⟨tw_564, tw_1, ⟨by decide, by decide, by decide +kernel⟩, by decide⟩
set_option maxRecDepth 100000 in
theorem mk_X11_isWide : xmk mX11_isWide 1 := ⟨tw_391, tw_1, ⟨by decide, by decide, by decide +kernel⟩, by decide⟩
set_option maxRecDepth 100000 in
theorem mk_X11_kindCompared : xmk mX11_kindCompared 1 := ⟨tw_601, tw_1, ⟨by decide, by decide, by decide +kernel⟩, by decide⟩
set_option maxRecDepth 100000 in
theorem mk_X11_kindOfCell : xmk mX11_kindOfCell 1 := ⟨tw_608, tw_1, ⟨by decide, by decide, by decide +kernel⟩, by decide⟩
set_option maxRecDepth 100000 in
theorem mk_X11_width : xmk mX11_width 1 := ⟨tw_388, tw_1, ⟨by decide, by decide, by decide +kernel⟩, by decide⟩
set_option maxRecDepth 100000 in
theorem mk_X11_within : xmk mX11_within 2 := ⟨tw_265, tw_1, ⟨by decide, by decide, by decide +kernel⟩, by decide⟩
set_option maxRecDepth 100000 in
theorem mk_X12_alter : xmk mX12_alter 5 := ⟨tw_1201, tw_9, ⟨by decide, by decide, by decide +kernel⟩, by decide⟩
set_option maxRecDepth 100000 in
theorem mk_X12_begin : xmk mX12_begin 1 := ⟨tw_1342, tw_9, ⟨by decide, by decide, by decide +kernel⟩, by decide⟩
set_option maxRecDepth 100000 in
theorem mk_X12_beginCall : xmk mX12_beginCall 1 := ⟨tw_1338, tw_9, ⟨by decide, by decide, by decide +kernel⟩, by decide⟩
set_option maxRecDepth 100000 in
theorem mk_X12_callOrEnd : xmk mX12_callOrEnd 3 := ⟨tw_1421, tw_9, ⟨by decide, by decide, by decide +kernel⟩, by decide⟩
set_option maxRecDepth 100000 in
theorem mk_X12_cellOf : xmk mX12_cellOf 3 := ⟨tw_1413, tw_9, ⟨by decide, by decide, by decide +kernel⟩, by decide⟩
set_option maxRecDepth 100000 in
theorem mk_X12_change : xmk mX12_change 0 := ⟨tw_1180, tw_9, ⟨by decide, by decide, by decide +kernel⟩, by decide⟩
set_option maxRecDepth 100000 in
theorem mk_X12_come : xmk mX12_come 2 := ⟨tw_1242, tw_9, ⟨by decide, by decide, by decide +kernel⟩, by decide⟩
set_option maxRecDepth 100000 in
theorem mk_X12_compared : xmk mX12_compared 3 := ⟨tw_1376, tw_9, ⟨by decide, by decide, by decide +kernel⟩, by decide⟩
set_option maxRecDepth 100000 in
theorem mk_X12_copies : xmk mX12_copies 2 := ⟨tw_1284, tw_9, ⟨by decide, by decide, by decide +kernel⟩, by decide⟩
set_option maxRecDepth 100000 in
theorem mk_X12_covers : xmk mX12_covers 2 := ⟨tw_1271, tw_9, ⟨by decide, by decide, by decide +kernel⟩, by decide⟩
set_option maxRecDepth 100000 in
theorem mk_X12_done : xmk mX12_done 2 := ⟨tw_1246, tw_9, ⟨by decide, by decide, by decide +kernel⟩, by decide⟩
set_option maxRecDepth 100000 in
theorem mk_X12_fail : xmk mX12_fail 1 := ⟨tw_1366, tw_9, ⟨by decide, by decide, by decide +kernel⟩, by decide⟩
set_option maxRecDepth 100000 in
theorem mk_X12_goOn : xmk mX12_goOn 2 := ⟨tw_1312, tw_9, ⟨by decide, by decide, by decide +kernel⟩, by decide⟩
set_option maxRecDepth 100000 in
theorem mk_X12_in : xmk mX12_in 3 := ⟨tw_1176, tw_9, ⟨by decide, by decide, by decide +kernel⟩, by decide⟩
set_option maxRecDepth 100000 in
theorem mk_X12_inOrder : xmk mX12_inOrder 2 := ⟨tw_1386, tw_9, ⟨by decide, by decide, by decide +kernel⟩, by decide⟩
set_option maxRecDepth 100000 in
theorem mk_X12_isArray : xmk mX12_isArray 1 := ⟨tw_1417, tw_9, ⟨by decide, by decide, by decide +kernel⟩, by decide⟩
set_option maxRecDepth 100000 in
theorem mk_X12_isCaught : xmk mX12_isCaught 0 := ⟨tw_1425, tw_9, ⟨by decide, by decide, by decide +kernel⟩, by decide⟩
set_option maxRecDepth 100000 in
theorem mk_X12_isIn : xmk mX12_isIn 2 := ⟨tw_1300, tw_9, ⟨by decide, by decide, by decide +kernel⟩, by decide⟩
set_option maxRecDepth 100000 in
theorem mk_X12_isLost : xmk mX12_isLost 4 := ⟨tw_1265, tw_9, ⟨by decide, by decide, by decide +kernel⟩, by decide⟩
set_option maxRecDepth 100000 in
theorem mk_X12_isMethod : xmk mX12_isMethod 1 := ⟨tw_1188, tw_9, ⟨by decide, by decide, by decide +kernel⟩, by decide⟩
set_option maxRecDepth 100000 in
theorem mk_X12_isNone : xmk mX12_isNone 2 := ⟨tw_1379, tw_9, ⟨by decide, by decide, by decide +kernel⟩, by decide⟩
set_option maxRecDepth 100000 in
theorem mk_X12_isOdd : xmk mX12_isOdd 3 := ⟨tw_1254, tw_9, ⟨by decide, by decide, by decide +kernel⟩, by decide⟩
set_option maxRecDepth 100000 in
theorem mk_X12_isType : xmk mX12_isType 1 := ⟨tw_1258, tw_9, ⟨by decide, by decide, by decide +kernel⟩, by decide⟩
set_option maxRecDepth 100000 in
theorem mk_X12_isWhole : xmk mX12_isWhole 1 := ⟨tw_1280, tw_9, ⟨by decide, by decide, by decide +kernel⟩, by decide⟩
set_option maxRecDepth 100000 in
theorem mk_X12_keep : xmk mX12_keep 0 := ⟨tw_1304, tw_9, ⟨by decide, by decide, by decide +kernel⟩, by decide⟩
set_option maxRecDepth 100000 in
theorem mk_X12_leads : xmk mX12_leads 4 := ⟨tw_1392, tw_9, ⟨by decide, by decide, by decide +kernel⟩, by decide⟩
set_option maxRecDepth 100000 in
theorem mk_X12_load : xmk mX12_load 2 := ⟨tw_1250, tw_9, ⟨by decide, by decide, by decide +kernel⟩, by decide⟩
set_option maxRecDepth 100000 in
theorem mk_X12_moveWords : xmk mX12_moveWords 2 := ⟨tw_1346, tw_9, ⟨by decide, by decide, by decide +kernel⟩, by decide⟩
set_option maxRecDepth 100000 in
theorem mk_X12_moves : xmk mX12_moves 1 := ⟨tw_1276, tw_9, ⟨by decide, by decide, by decide +kernel⟩, by decide⟩
set_option maxRecDepth 100000 in
theorem mk_X12_narrow : xmk mX12_narrow 2 := ⟨tw_1372, tw_9, ⟨by decide, by decide, by decide +kernel⟩, by decide⟩
set_option maxRecDepth 100000 in
theorem mk_X12_newArray : xmk mX12_newArray 3 := ⟨tw_1404, tw_9, ⟨by decide, by decide, by decide +kernel⟩, by decide⟩
set_option maxRecDepth 100000 in
theorem mk_X12_newThing : xmk mX12_newThing 2 := ⟨tw_1409, tw_9, ⟨by decide, by decide, by decide +kernel⟩, by decide⟩
set_option maxRecDepth 100000 in
theorem mk_X12_number3 : xmk mX12_number3 4 := ⟨tw_1362, tw_9, ⟨by decide, by decide, by decide +kernel⟩, by decide⟩
set_option maxRecDepth 100000 in
theorem mk_X12_plain : xmk mX12_plain 4 := ⟨tw_1350, tw_9, ⟨by decide, by decide, by decide +kernel⟩, by decide⟩
set_option maxRecDepth 100000 in
theorem mk_X12_pop : xmk mX12_pop 1 := ⟨tw_1296, tw_9, ⟨by decide, by decide, by decide +kernel⟩, by decide⟩
set_option maxRecDepth 100000 in
theorem mk_X12_push : xmk mX12_push 1 := ⟨tw_1292, tw_9, ⟨by decide, by decide, by decide +kernel⟩, by decide⟩
set_option maxRecDepth 100000 in
theorem mk_X12_put : xmk mX12_put 3 := ⟨tw_1354, tw_9, ⟨by decide, by decide, by decide +kernel⟩, by decide⟩
set_option maxRecDepth 100000 in
theorem mk_X12_reckoned : xmk mX12_reckoned 4 := ⟨tw_1369, tw_9, ⟨by decide, by decide, by decide +kernel⟩, by decide⟩
set_option maxRecDepth 100000 in
theorem mk_X12_sendOn : xmk mX12_sendOn 5 := ⟨tw_1308, tw_9, ⟨by decide, by decide, by decide +kernel⟩, by decide⟩
set_option maxRecDepth 100000 in
theorem mk_X12_store : xmk mX12_store 2 := ⟨tw_1238, tw_9, ⟨by decide, by decide, by decide +kernel⟩, by decide⟩
set_option maxRecDepth 100000 in
theorem mk_X12_take : xmk mX12_take 2 := ⟨tw_1358, tw_9, ⟨by decide, by decide, by decide +kernel⟩, by decide⟩
set_option maxRecDepth 100000 in
theorem mk_X12_takeInt : xmk mX12_takeInt 1 := ⟨tw_1396, tw_9, ⟨by decide, by decide, by decide +kernel⟩, by decide⟩
set_option maxRecDepth 100000 in
theorem mk_X12_thing3 : xmk mX12_thing3 4 := ⟨tw_1400, tw_9, ⟨by decide, by decide, by decide +kernel⟩, by decide⟩
set_option maxRecDepth 100000 in
theorem mk_X12_wordsOf : xmk mX12_wordsOf 1 := ⟨tw_1192, tw_9, ⟨by decide, by decide, by decide +kernel⟩, by decide⟩
set_option maxRecDepth 100000 in
theorem mk_X12_works : xmk mX12_works 4 := ⟨tw_1288, tw_9, ⟨by decide, by decide, by decide +kernel⟩, by decide⟩
set_option maxRecDepth 100000 in
theorem mk_X12_wrong : xmk mX12_wrong 3 := ⟨tw_1234, tw_9, ⟨by decide, by decide, by decide +kernel⟩, by decide⟩
set_option maxRecDepth 100000 in
theorem mk_X1_begin : xmk mX1_begin 1 := ⟨tw_492, tw_3, ⟨by decide, by decide, by decide +kernel⟩, by decide⟩
set_option maxRecDepth 100000 in
theorem mk_X1_examine : xmk mX1_examine 2 := ⟨tw_488, tw_3, ⟨by decide, by decide, by decide +kernel⟩, by decide⟩
set_option maxRecDepth 100000 in
theorem mk_X1_goesToNext : xmk mX1_goesToNext 1 := ⟨tw_665, tw_3, ⟨by decide, by decide, by decide +kernel⟩, by decide⟩
set_option maxRecDepth 100000 in
theorem mk_X1_init : xmk mX1_init 1 := ⟨tw_64, tw_3, ⟨by decide, by decide, by decide +kernel⟩, by decide⟩
set_option maxRecDepth 100000 in
theorem mk_X1_kindPut : xmk mX1_kindPut 3 := ⟨tw_662, tw_3, ⟨by decide, by decide, by decide +kernel⟩, by decide⟩
set_option maxRecDepth 100000 in
theorem mk_X1_operandsAreSuch : xmk mX1_operandsAreSuch 3 := ⟨tw_560, tw_3, ⟨by decide, by decide, by decide +kernel⟩, by decide⟩
set_option maxRecDepth 100000 in
theorem mk_X1_ownFault : xmk mX1_ownFault 2 := ⟨tw_552, tw_3, ⟨by decide, by decide, by decide +kernel⟩, by decide⟩
set_option maxRecDepth 100000 in
theorem mk_X1_putAll : xmk mX1_putAll 3 := ⟨tw_634, tw_3, ⟨by decide, by decide, by decide +kernel⟩, by decide⟩
set_option maxRecDepth 100000 in
theorem mk_X1_send : xmk mX1_send 3 := ⟨tw_673, tw_3, ⟨by decide, by decide, by decide +kernel⟩, by decide⟩
set_option maxRecDepth 100000 in
theorem mk_X1_sendByTable : xmk mX1_sendByTable 2 := ⟨tw_681, tw_3, ⟨by decide, by decide, by decide +kernel⟩, by decide⟩
set_option maxRecDepth 100000 in
theorem mk_X1_sendOn : xmk mX1_sendOn 2 := ⟨tw_677, tw_3, ⟨by decide, by decide, by decide +kernel⟩, by decide⟩
set_option maxRecDepth 100000 in
theorem mk_X1_sendToHandlers : xmk mX1_sendToHandlers 2 := ⟨tw_669, tw_3, ⟨by decide, by decide, by decide +kernel⟩, by decide⟩
set_option maxRecDepth 100000 in
theorem mk_X1_takeAll : xmk mX1_takeAll 3 := ⟨tw_581, tw_3, ⟨by decide, by decide, by decide +kernel⟩, by decide⟩
set_option maxRecDepth 100000 in
theorem mk_X1_takeArguments : xmk mX1_takeArguments 1 := ⟨tw_613, tw_3, ⟨by decide, by decide, by decide +kernel⟩, by decide⟩
set_option maxRecDepth 100000 in
theorem mk_X1_takeCalculated : xmk mX1_takeCalculated 2 := ⟨tw_598, tw_3, ⟨by decide, by decide, by decide +kernel⟩, by decide⟩
set_option maxRecDepth 100000 in
theorem mk_X1_takeSizes : xmk mX1_takeSizes 1 := ⟨tw_605, tw_3, ⟨by decide, by decide, by decide +kernel⟩, by decide⟩
set_option maxRecDepth 100000 in
theorem mk_X1_targetsAreThere : xmk mX1_targetsAreThere 2 := ⟨tw_568, tw_3, ⟨by decide, by decide, by decide +kernel⟩, by decide⟩
set_option maxRecDepth 100000 in
theorem mk_X2_addArgument : xmk mX2_addArgument 1 := ⟨tw_395, tw_10, ⟨by decide, by decide, by decide +kernel⟩, by decide⟩
set_option maxRecDepth 100000 in
theorem mk_X2_addHandler : xmk mX2_addHandler 4 := ⟨tw_416, tw_10, ⟨by decide, by decide, by decide +kernel⟩, by decide⟩
set_option maxRecDepth 100000 in
theorem mk_X2_catcher : xmk mX2_catcher 2 := ⟨tw_926, tw_10, ⟨by decide, by decide, by decide +kernel⟩, by decide⟩
set_option maxRecDepth 100000 in
theorem mk_X2_covers : xmk mX2_covers 2 := ⟨tw_577, tw_10, ⟨by decide, by decide, by decide +kernel⟩, by decide⟩
set_option maxRecDepth 100000 in
theorem mk_X2_init : xmk mX2_init 1 := ⟨tw_277, tw_10, ⟨by decide, by decide, by decide +kernel⟩, by decide⟩
set_option maxRecDepth 100000 in
theorem mk_X2_setOperation : xmk mX2_setOperation 4 := ⟨tw_404, tw_10, ⟨by decide, by decide, by decide +kernel⟩, by decide⟩
set_option maxRecDepth 100000 in
theorem mk_X3_calculateInt : xmk mX3_calculateInt 3 := ⟨tw_786, tw_15, ⟨by decide, by decide, by decide +kernel⟩, by decide⟩
set_option maxRecDepth 100000 in
theorem mk_X3_calculateLong : xmk mX3_calculateLong 3 := ⟨tw_783, tw_15, ⟨by decide, by decide, by decide +kernel⟩, by decide⟩
set_option maxRecDepth 100000 in
theorem mk_X3_compareBits : xmk mX3_compareBits 3 := ⟨tw_796, tw_15, ⟨by decide, by decide, by decide +kernel⟩, by decide⟩
set_option maxRecDepth 100000 in
theorem mk_X3_convert : xmk mX3_convert 2 := ⟨tw_789, tw_15, ⟨by decide, by decide, by decide +kernel⟩, by decide⟩
set_option maxRecDepth 100000 in
theorem mk_X3_narrow : xmk mX3_narrow 2 := ⟨tw_792, tw_15, ⟨by decide, by decide, by decide +kernel⟩, by decide⟩
set_option maxRecDepth 100000 in
theorem mk_X3_order : xmk mX3_order 2 := ⟨tw_799, tw_15, ⟨by decide, by decide, by decide +kernel⟩, by decide⟩
set_option maxRecDepth 100000 in
theorem mk_X3_passes : xmk mX3_passes 2 := ⟨tw_819, tw_15, ⟨by decide, by decide, by decide +kernel⟩, by decide⟩
set_option maxRecDepth 100000 in
theorem mk_X4_addConstant : xmk mX4_addConstant 1 := ⟨tw_424, tw_2, ⟨by decide, by decide, by decide +kernel⟩, by decide⟩
set_option maxRecDepth 100000 in
theorem mk_X4_addMethod : xmk mX4_addMethod 1 := ⟨tw_273, tw_2, ⟨by decide, by decide, by decide +kernel⟩, by decide⟩
set_option maxRecDepth 100000 in
theorem mk_X4_addTable : xmk mX4_addTable 3 := ⟨tw_432, tw_2, ⟨by decide, by decide, by decide +kernel⟩, by decide⟩
set_option maxRecDepth 100000 in
theorem mk_X4_allFaultless : xmk mX4_allFaultless 0 := ⟨tw_713, tw_2, ⟨by decide, by decide, by decide +kernel⟩, by decide⟩
set_option maxRecDepth 100000 in
theorem mk_X4_findMethod : xmk mX4_findMethod 1 := ⟨tw_384, tw_2, ⟨by decide, by decide, by decide +kernel⟩, by decide⟩
set_option maxRecDepth 100000 in
theorem mk_X4_findTable : xmk mX4_findTable 1 := ⟨tw_468, tw_2, ⟨by decide, by decide, by decide +kernel⟩, by decide⟩
set_option maxRecDepth 100000 in
theorem mk_X4_forgetJudgements : xmk mX4_forgetJudgements 0 := ⟨tw_269, tw_2, ⟨by decide, by decide, by decide +kernel⟩, by decide⟩
set_option maxRecDepth 100000 in
theorem mk_X4_init : xmk mX4_init 0 := ⟨tw_28, tw_2, ⟨by decide, by decide, by decide +kernel⟩, by decide⟩
set_option maxRecDepth 100000 in
theorem mk_X4_readConstant : xmk mX4_readConstant 1 := ⟨tw_753, tw_2, ⟨by decide, by decide, by decide +kernel⟩, by decide⟩
set_option maxRecDepth 100000 in
theorem mk_X5_dropHalves : xmk mX5_dropHalves 2 := ⟨tw_513, tw_4, ⟨by decide, by decide, by decide +kernel⟩, by decide⟩
set_option maxRecDepth 100000 in
theorem mk_X5_holds : xmk mX5_holds 2 := ⟨tw_630, tw_4, ⟨by decide, by decide, by decide +kernel⟩, by decide⟩
set_option maxRecDepth 100000 in
theorem mk_X5_init : xmk mX5_init 0 := ⟨tw_70, tw_4, ⟨by decide, by decide, by decide +kernel⟩, by decide⟩
set_option maxRecDepth 100000 in
theorem mk_X5_mayMove : xmk mX5_mayMove 1 := ⟨tw_617, tw_4, ⟨by decide, by decide, by decide +kernel⟩, by decide⟩
set_option maxRecDepth 100000 in
theorem mk_X5_put : xmk mX5_put 1 := ⟨tw_638, tw_4, ⟨by decide, by decide, by decide +kernel⟩, by decide⟩
set_option maxRecDepth 100000 in
theorem mk_X5_store : xmk mX5_store 2 := ⟨tw_501, tw_4, ⟨by decide, by decide, by decide +kernel⟩, by decide⟩
set_option maxRecDepth 100000 in
theorem mk_X5_take : xmk mX5_take 1 := ⟨tw_585, tw_4, ⟨by decide, by decide, by decide +kernel⟩, by decide⟩
set_option maxRecDepth 100000 in
theorem mk_X5_writeLocal : xmk mX5_writeLocal 2 := ⟨tw_505, tw_4, ⟨by decide, by decide, by decide +kernel⟩, by decide⟩
set_option maxRecDepth 100000 in
theorem mk_X6_bring : xmk mX6_bring 2 := ⟨tw_526, tw_11, ⟨by decide, by decide, by decide +kernel⟩, by decide⟩
set_option maxRecDepth 100000 in
theorem mk_X6_forget : xmk mX6_forget 0 := ⟨tw_522, tw_11, ⟨by decide, by decide, by decide +kernel⟩, by decide⟩
set_option maxRecDepth 100000 in
theorem mk_X6_init : xmk mX6_init 0 := ⟨tw_283, tw_11, ⟨by decide, by decide, by decide +kernel⟩, by decide⟩
set_option maxRecDepth 100000 in
theorem mk_X6_isStack : xmk mX6_isStack 2 := ⟨tw_537, tw_11, ⟨by decide, by decide, by decide +kernel⟩, by decide⟩
set_option maxRecDepth 100000 in
theorem mk_X6_joinLocals : xmk mX6_joinLocals 2 := ⟨tw_546, tw_11, ⟨by decide, by decide, by decide +kernel⟩, by decide⟩
set_option maxRecDepth 100000 in
theorem mk_X6_keep : xmk mX6_keep 2 := ⟨tw_530, tw_11, ⟨by decide, by decide, by decide +kernel⟩, by decide⟩
set_option maxRecDepth 100000 in
theorem mk_X6_leastDue : xmk mX6_leastDue 0 := ⟨tw_685, tw_11, ⟨by decide, by decide, by decide +kernel⟩, by decide⟩
set_option maxRecDepth 100000 in
theorem mk_X6_load : xmk mX6_load 2 := ⟨tw_556, tw_11, ⟨by decide, by decide, by decide +kernel⟩, by decide⟩
set_option maxRecDepth 100000 in
theorem mk_X6_tell : xmk mX6_tell 2 := ⟨tw_701, tw_11, ⟨by decide, by decide, by decide +kernel⟩, by decide⟩
set_option maxRecDepth 100000 in
theorem mk_X7_addEntry : xmk mX7_addEntry 2 := ⟨tw_476, tw_12, ⟨by decide, by decide, by decide +kernel⟩, by decide⟩
set_option maxRecDepth 100000 in
theorem mk_X7_init : xmk mX7_init 3 := ⟨tw_436, tw_12, ⟨by decide, by decide, by decide +kernel⟩, by decide⟩
set_option maxRecDepth 100000 in
theorem mk_X7_mayFollow : xmk mX7_mayFollow 1 := ⟨tw_472, tw_12, ⟨by decide, by decide, by decide +kernel⟩, by decide⟩
set_option maxRecDepth 100000 in
theorem mk_X7_staysBelow : xmk mX7_staysBelow 1 := ⟨tw_573, tw_12, ⟨by decide, by decide, by decide +kernel⟩, by decide⟩
set_option maxRecDepth 100000 in
theorem mk_X7_targetFor : xmk mX7_targetFor 1 := ⟨tw_816, tw_12, ⟨by decide, by decide, by decide +kernel⟩, by decide⟩
set_option maxRecDepth 100000 in
theorem mk_X8_add : xmk mX8_add 2 := ⟨tw_842, tw_7, ⟨by decide, by decide, by decide +kernel⟩, by decide⟩
set_option maxRecDepth 100000 in
theorem mk_X8_cellSort : xmk mX8_cellSort 1 := ⟨tw_845, tw_7, ⟨by decide, by decide, by decide +kernel⟩, by decide⟩
set_option maxRecDepth 100000 in
theorem mk_X8_clear : xmk mX8_clear 0 := ⟨tw_721, tw_7, ⟨by decide, by decide, by decide +kernel⟩, by decide⟩
set_option maxRecDepth 100000 in
theorem mk_X8_describe : xmk mX8_describe 2 := ⟨tw_953, tw_7, ⟨by decide, by decide, by decide +kernel⟩, by decide⟩
set_option maxRecDepth 100000 in
theorem mk_X8_failureNumber : xmk mX8_failureNumber 1 := ⟨tw_904, tw_7, ⟨by decide, by decide, by decide +kernel⟩, by decide⟩
set_option maxRecDepth 100000 in
theorem mk_X8_hasCell : xmk mX8_hasCell 2 := ⟨tw_854, tw_7, ⟨by decide, by decide, by decide +kernel⟩, by decide⟩
set_option maxRecDepth 100000 in
theorem mk_X8_haveRoom : xmk mX8_haveRoom 2 := ⟨tw_834, tw_7, ⟨by decide, by decide, by decide +kernel⟩, by decide⟩
set_option maxRecDepth 100000 in
theorem mk_X8_init : xmk mX8_init 0 := ⟨tw_132, tw_7, ⟨by decide, by decide, by decide +kernel⟩, by decide⟩
set_option maxRecDepth 100000 in
theorem mk_X8_isArray : xmk mX8_isArray 1 := ⟨tw_866, tw_7, ⟨by decide, by decide, by decide +kernel⟩, by decide⟩
set_option maxRecDepth 100000 in
theorem mk_X8_isOfType : xmk mX8_isOfType 2 := ⟨tw_884, tw_7, ⟨by decide, by decide, by decide +kernel⟩, by decide⟩
set_option maxRecDepth 100000 in
theorem mk_X8_makeFailure : xmk mX8_makeFailure 1 := ⟨tw_900, tw_7, ⟨by decide, by decide, by decide +kernel⟩, by decide⟩
set_option maxRecDepth 100000 in
theorem mk_X8_makeRow : xmk mX8_makeRow 5 := ⟨tw_838, tw_7, ⟨by decide, by decide, by decide +kernel⟩, by decide⟩
set_option maxRecDepth 100000 in
theorem mk_X8_mayStore : xmk mX8_mayStore 2 := ⟨tw_880, tw_7, ⟨by decide, by decide, by decide +kernel⟩, by decide⟩
set_option maxRecDepth 100000 in
theorem mk_X8_read : xmk mX8_read 2 := ⟨tw_872, tw_7, ⟨by decide, by decide, by decide +kernel⟩, by decide⟩
set_option maxRecDepth 100000 in
theorem mk_X8_refuseCell : xmk mX8_refuseCell 3 := ⟨tw_862, tw_7, ⟨by decide, by decide, by decide +kernel⟩, by decide⟩
set_option maxRecDepth 100000 in
theorem mk_X8_write : xmk mX8_write 3 := ⟨tw_850, tw_7, ⟨by decide, by decide, by decide +kernel⟩, by decide⟩
set_option maxRecDepth 100000 in
theorem mk_X9_asArgument : xmk mX9_asArgument 2 := ⟨tw_729, tw_6, ⟨by decide, by decide, by decide +kernel⟩, by decide⟩
set_option maxRecDepth 100000 in
theorem mk_X9_calculate : xmk mX9_calculate 3 := ⟨tw_780, tw_6, ⟨by decide, by decide, by decide +kernel⟩, by decide⟩
set_option maxRecDepth 100000 in
theorem mk_X9_compute : xmk mX9_compute 4 := ⟨tw_776, tw_6, ⟨by decide, by decide, by decide +kernel⟩, by decide⟩
set_option maxRecDepth 100000 in
theorem mk_X9_countCells : xmk mX9_countCells 1 := ⟨tw_890, tw_6, ⟨by decide, by decide, by decide +kernel⟩, by decide⟩
set_option maxRecDepth 100000 in
theorem mk_X9_enter : xmk mX9_enter 2 := ⟨tw_917, tw_6, ⟨by decide, by decide, by decide +kernel⟩, by decide⟩
set_option maxRecDepth 100000 in
theorem mk_X9_getCell : xmk mX9_getCell 2 := ⟨tw_858, tw_6, ⟨by decide, by decide, by decide +kernel⟩, by decide⟩
set_option maxRecDepth 100000 in
theorem mk_X9_init : xmk mX9_init 1 := ⟨tw_126, tw_6, ⟨by decide, by decide, by decide +kernel⟩, by decide⟩
set_option maxRecDepth 100000 in
theorem mk_X9_jump : xmk mX9_jump 4 := ⟨tw_807, tw_6, ⟨by decide, by decide, by decide +kernel⟩, by decide⟩
set_option maxRecDepth 100000 in
theorem mk_X9_leave : xmk mX9_leave 1 := ⟨tw_913, tw_6, ⟨by decide, by decide, by decide +kernel⟩, by decide⟩
set_option maxRecDepth 100000 in
theorem mk_X9_letGoAll : xmk mX9_letGoAll 1 := ⟨tw_932, tw_6, ⟨by decide, by decide, by decide +kernel⟩, by decide⟩
set_option maxRecDepth 100000 in
theorem mk_X9_newArray : xmk mX9_newArray 3 := ⟨tw_827, tw_6, ⟨by decide, by decide, by decide +kernel⟩, by decide⟩
set_option maxRecDepth 100000 in
theorem mk_X9_perform : xmk mX9_perform 4 := ⟨tw_745, tw_6, ⟨by decide, by decide, by decide +kernel⟩, by decide⟩
set_option maxRecDepth 100000 in
theorem mk_X9_pushFixed : xmk mX9_pushFixed 3 := ⟨tw_749, tw_6, ⟨by decide, by decide, by decide +kernel⟩, by decide⟩
set_option maxRecDepth 100000 in
theorem mk_X9_putCell : xmk mX9_putCell 2 := ⟨tw_876, tw_6, ⟨by decide, by decide, by decide +kernel⟩, by decide⟩
set_option maxRecDepth 100000 in
theorem mk_X9_raise : xmk mX9_raise 3 := ⟨tw_922, tw_6, ⟨by decide, by decide, by decide +kernel⟩, by decide⟩
set_option maxRecDepth 100000 in
theorem mk_X9_report : xmk mX9_report 1 := ⟨tw_945, tw_6, ⟨by decide, by decide, by decide +kernel⟩, by decide⟩
set_option maxRecDepth 100000 in
theorem mk_X9_run : xmk mX9_run 1 := ⟨tw_741, tw_6, ⟨by decide, by decide, by decide +kernel⟩, by decide⟩
set_option maxRecDepth 100000 in
theorem mk_X9_start : xmk mX9_start 3 := ⟨tw_717, tw_6, ⟨by decide, by decide, by decide +kernel⟩, by decide⟩
set_option maxRecDepth 100000 in
theorem mk_X9_useArray : xmk mX9_useArray 4 := ⟨tw_823, tw_6, ⟨by decide, by decide, by decide +kernel⟩, by decide⟩
set_option maxRecDepth 100000 in
theorem mk_X9_useFailure : xmk mX9_useFailure 3 := ⟨tw_896, tw_6, ⟨by decide, by decide, by decide +kernel⟩, by decide⟩
set_option maxRecDepth 100000 in
theorem mk_X9_useLocal : xmk mX9_useLocal 4 := ⟨tw_763, tw_6, ⟨by decide, by decide, by decide +kernel⟩, by decide⟩
set_option maxRecDepth 100000 in
theorem mk_X9_useMonitor : xmk mX9_useMonitor 2 := ⟨tw_908, tw_6, ⟨by decide, by decide, by decide +kernel⟩, by decide⟩
