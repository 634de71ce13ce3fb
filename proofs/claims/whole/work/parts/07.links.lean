abbrev mX0_init : bw_M := (yX0_init, cX0_init, 2, (Option.none : Option FieldType), [])
abbrev mX0_toRest : bw_M := (yX0_toRest, cX0_toRest, 4, (Option.none : Option FieldType), [])
abbrev mX0_toQuotient : bw_M := (yX0_toQuotient, cX0_toQuotient, 3, (Option.none : Option FieldType), [])
abbrev mX0_divideInPlace : bw_M := (yX0_divideInPlace, cX0_divideInPlace, 7, (Option.none : Option FieldType), [])
abbrev mX0_toGreatestDivisor : bw_M := (yX0_toGreatestDivisor, cX0_toGreatestDivisor, 7, (Option.none : Option FieldType), [])
abbrev mX0_takeOut : bw_M := (yX0_takeOut, cX0_takeOut, 4, (Option.some FieldType.boolean), [])
abbrev mX0_toSquareRest : bw_M := (yX0_toSquareRest, cX0_toSquareRest, 5, (Option.none : Option FieldType), [])
abbrev mX1_init : bw_M := (yX1_init, cX1_init, 2, (Option.none : Option FieldType), [])
abbrev mX1_load : bw_M := (yX1_load, cX1_load, 3, (Option.none : Option FieldType), [])
abbrev mX1_appendIdentity : bw_M := (yX1_appendIdentity, cX1_appendIdentity, 3, (Option.none : Option FieldType), [])
abbrev mX1_appendColumn : bw_M := (yX1_appendColumn, cX1_appendColumn, 3, (Option.none : Option FieldType), [])
abbrev mX1_reduce : bw_M := (yX1_reduce, cX1_reduce, 4, (Option.some FieldType.int), [])
abbrev mX1_rowWithMember : bw_M := (yX1_rowWithMember, cX1_rowWithMember, 3, (Option.some FieldType.int), [])
abbrev mX1_exchange : bw_M := (yX1_exchange, cX1_exchange, 5, (Option.none : Option FieldType), [])
abbrev mX1_free : bw_M := (yX1_free, cX1_free, 4, (Option.none : Option FieldType), [])
abbrev mX1_leavesOver : bw_M := (yX1_leavesOver, cX1_leavesOver, 3, (Option.some FieldType.boolean), [])
abbrev mX1_solution : bw_M := (yX1_solution, cX1_solution, 4, (Option.some FieldType.int), [])
abbrev mX1_copyAppended : bw_M := (yX1_copyAppended, cX1_copyAppended, 3, (Option.none : Option FieldType), [])
abbrev mX2_init : bw_M := (yX2_init, cX2_init, 3, (Option.none : Option FieldType), [])
abbrev mX2_count : bw_M := (yX2_count, cX2_count, 5, (Option.none : Option FieldType), [])
abbrev mX2_takeParts : bw_M := (yX2_takeParts, cX2_takeParts, 4, (Option.some FieldType.int), [])
abbrev mX3_init : bw_M := (yX3_init, cX3_init, 5, (Option.none : Option FieldType), [])
abbrev mX3_firstUnsplit : bw_M := (yX3_firstUnsplit, cX3_firstUnsplit, 5, (Option.some FieldType.int), [])
abbrev mX3_splits : bw_M := (yX3_splits, cX3_splits, 4, (Option.some FieldType.boolean), [])
abbrev mX3_restOfBits : bw_M := (yX3_restOfBits, cX3_restOfBits, 5, (Option.some FieldType.int), [])
abbrev mX3_highestBit : bw_M := (yX3_highestBit, cX3_highestBit, 1, (Option.some FieldType.int), [])
abbrev mX3_slowProduct : bw_M := (yX3_slowProduct, cX3_slowProduct, 6, (Option.some FieldType.int), [])
abbrev mX3_slowPower : bw_M := (yX3_slowPower, cX3_slowPower, 6, (Option.some FieldType.int), [])
abbrev mX3_leastGenerator : bw_M := (yX3_leastGenerator, cX3_leastGenerator, 2, (Option.some FieldType.int), [])
abbrev mX3_generates : bw_M := (yX3_generates, cX3_generates, 6, (Option.some FieldType.boolean), [])
abbrev mX3_logOf : bw_M := (yX3_logOf, cX3_logOf, 2, (Option.some FieldType.int), [])
abbrev mX3_mul : bw_M := (yX3_mul, cX3_mul, 4, (Option.some FieldType.int), [])
abbrev mX3_inverse : bw_M := (yX3_inverse, cX3_inverse, 3, (Option.some FieldType.int), [])
abbrev mX3_ratio : bw_M := (yX3_ratio, cX3_ratio, 3, (Option.some FieldType.int), [])
abbrev mX3_raised : bw_M := (yX3_raised, cX3_raised, 8, (Option.some FieldType.int), [])
abbrev mX3_orderOf : bw_M := (yX3_orderOf, cX3_orderOf, 7, (Option.some FieldType.int), [])
abbrev mX3_addMultiple : bw_M := (yX3_addMultiple, cX3_addMultiple, 11, (Option.none : Option FieldType), [])
abbrev mX3_scale : bw_M := (yX3_scale, cX3_scale, 5, (Option.none : Option FieldType), [])
abbrev mX4_init : bw_M := (yX4_init, cX4_init, 2, (Option.none : Option FieldType), [])
abbrev mX4_take : bw_M := (yX4_take, cX4_take, 4, (Option.none : Option FieldType), [])
abbrev mX4_run : bw_M := (yX4_run, cX4_run, 5, (Option.none : Option FieldType), [])
abbrev mX4_multiplyAndAdd : bw_M := (yX4_multiplyAndAdd, cX4_multiplyAndAdd, 7, (Option.none : Option FieldType), [])
abbrev mX5_init : bw_M := (yX5_init, cX5_init, 3, (Option.none : Option FieldType), [])
abbrev mX6_init : bw_M := (yX6_init, cX6_init, 2, (Option.none : Option FieldType), [])
abbrev mX6_countZeros : bw_M := (yX6_countZeros, cX6_countZeros, 6, (Option.some FieldType.int), [])
abbrev mX6_addRow : bw_M := (yX6_addRow, cX6_addRow, 7, (Option.some FieldType.int), [])
abbrev mX6_expanded : bw_M := (yX6_expanded, cX6_expanded, 7, (Option.some FieldType.int), [])
abbrev mX7_init : bw_M := (yX7_init, cX7_init, 2, (Option.none : Option FieldType), [])
abbrev mX7_clear : bw_M := (yX7_clear, cX7_clear, 2, (Option.none : Option FieldType), [])
abbrev mX7_load : bw_M := (yX7_load, cX7_load, 3, (Option.none : Option FieldType), [])
abbrev mX7_copyFrom : bw_M := (yX7_copyFrom, cX7_copyFrom, 2, (Option.none : Option FieldType), [])
abbrev mX7_settle : bw_M := (yX7_settle, cX7_settle, 3, (Option.none : Option FieldType), [])
abbrev mX7_addScaled : bw_M := (yX7_addScaled, cX7_addScaled, 4, (Option.none : Option FieldType), [])
abbrev mX7_addMember : bw_M := (yX7_addMember, cX7_addMember, 2, (Option.none : Option FieldType), [])
abbrev mX7_becomeX : bw_M := (yX7_becomeX, cX7_becomeX, 1, (Option.none : Option FieldType), [])
abbrev mX7_shiftDown : bw_M := (yX7_shiftDown, cX7_shiftDown, 3, (Option.none : Option FieldType), [])
abbrev mX8_init : bw_M := (yX8_init, cX8_init, 4, (Option.none : Option FieldType), [])
abbrev mX8_valueAt : bw_M := (yX8_valueAt, cX8_valueAt, 5, (Option.some FieldType.int), [])
abbrev mX8_makeRests : bw_M := (yX8_makeRests, cX8_makeRests, 3, (Option.none : Option FieldType), [])
abbrev mX8_find : bw_M := (yX8_find, cX8_find, 6, (Option.some FieldType.int), [])
abbrev mX8_keepLower : bw_M := (yX8_keepLower, cX8_keepLower, 3, (Option.none : Option FieldType), [])
abbrev mX9_init : bw_M := (yX9_init, cX9_init, 3, (Option.none : Option FieldType), [])
abbrev mX9_poly : bw_M := (yX9_poly, cX9_poly, 1, (Option.some FieldType.int), [])
abbrev mX9_generator : bw_M := (yX9_generator, cX9_generator, 1, (Option.some FieldType.int), [])
abbrev mX9_product : bw_M := (yX9_product, cX9_product, 3, (Option.some FieldType.int), [])
abbrev mX9_quotient : bw_M := (yX9_quotient, cX9_quotient, 3, (Option.some FieldType.int), [])
abbrev mX9_power : bw_M := (yX9_power, cX9_power, 4, (Option.some FieldType.int), [])
abbrev mX9_log : bw_M := (yX9_log, cX9_log, 2, (Option.some FieldType.int), [])
abbrev mX9_order : bw_M := (yX9_order, cX9_order, 2, (Option.some FieldType.int), [])
abbrev mX9_put : bw_M := (yX9_put, cX9_put, 2, (Option.some FieldType.int), [])
abbrev mX9_row : bw_M := (yX9_row, cX9_row, 2, (Option.some FieldType.int), [])
abbrev mX9_drop : bw_M := (yX9_drop, cX9_drop, 2, (Option.some FieldType.int), [])
abbrev mX9_matrix : bw_M := (yX9_matrix, cX9_matrix, 3, (Option.some FieldType.int), [])
abbrev mX9_powers : bw_M := (yX9_powers, cX9_powers, 7, (Option.some FieldType.int), [])
abbrev mX9_sums : bw_M := (yX9_sums, cX9_sums, 6, (Option.some FieldType.int), [])
abbrev mX9_size : bw_M := (yX9_size, cX9_size, 4, (Option.some FieldType.int), [])
abbrev mX9_cell : bw_M := (yX9_cell, cX9_cell, 5, (Option.some FieldType.int), [])
abbrev mX9_set : bw_M := (yX9_set, cX9_set, 8, (Option.some FieldType.int), [])
abbrev mX9_times : bw_M := (yX9_times, cX9_times, 9, (Option.some FieldType.int), [])
abbrev mX9_invert : bw_M := (yX9_invert, cX9_invert, 4, (Option.some FieldType.int), [])
abbrev mX9_rank : bw_M := (yX9_rank, cX9_rank, 3, (Option.some FieldType.int), [])
abbrev mX9_determinant : bw_M := (yX9_determinant, cX9_determinant, 3, (Option.some FieldType.int), [])
abbrev mX9_singular : bw_M := (yX9_singular, cX9_singular, 2, (Option.some FieldType.int), [])
abbrev mX9_solve : bw_M := (yX9_solve, cX9_solve, 5, (Option.some FieldType.int), [])
abbrev mX9_polynomial : bw_M := (yX9_polynomial, cX9_polynomial, 2, (Option.some FieldType.int), [])
abbrev mX9_through : bw_M := (yX9_through, cX9_through, 3, (Option.some FieldType.int), [])
abbrev mX9_degree : bw_M := (yX9_degree, cX9_degree, 2, (Option.some FieldType.int), [])
abbrev mX9_coefficient : bw_M := (yX9_coefficient, cX9_coefficient, 4, (Option.some FieldType.int), [])
abbrev mX9_value : bw_M := (yX9_value, cX9_value, 4, (Option.some FieldType.int), [])
abbrev mX9_plus : bw_M := (yX9_plus, cX9_plus, 5, (Option.some FieldType.int), [])
abbrev mX9_multiply : bw_M := (yX9_multiply, cX9_multiply, 6, (Option.some FieldType.int), [])
abbrev mX9_divide : bw_M := (yX9_divide, cX9_divide, 6, (Option.some FieldType.int), [])
abbrev mX9_common : bw_M := (yX9_common, cX9_common, 5, (Option.some FieldType.int), [])
abbrev mX9_root : bw_M := (yX9_root, cX9_root, 4, (Option.some FieldType.int), [])
abbrev mX9_often : bw_M := (yX9_often, cX9_often, 5, (Option.some FieldType.int), [])
abbrev mX9_parts : bw_M := (yX9_parts, cX9_parts, 5, (Option.some FieldType.int), [])
abbrev mX9_span : bw_M := (yX9_span, cX9_span, 2, (Option.some FieldType.int), [])
abbrev mX9_forth : bw_M := (yX9_forth, cX9_forth, 4, (Option.some FieldType.int), [])
abbrev mX9_back : bw_M := (yX9_back, cX9_back, 2, (Option.some FieldType.int), [])
abbrev mX9_told : bw_M := (yX9_told, cX9_told, 2, (Option.some FieldType.int), [])
abbrev mX9_needMember : bw_M := (yX9_needMember, cX9_needMember, 2, (Option.none : Option FieldType), [])
abbrev mX9_needSides : bw_M := (yX9_needSides, cX9_needSides, 2, (Option.none : Option FieldType), [])
abbrev mX9_needSquare : bw_M := (yX9_needSquare, cX9_needSquare, 1, (Option.none : Option FieldType), [])
abbrev mX9_needMatrixRoom : bw_M := (yX9_needMatrixRoom, cX9_needMatrixRoom, 1, (Option.none : Option FieldType), [])
abbrev mX9_needPolynomialRoom : bw_M := (yX9_needPolynomialRoom, cX9_needPolynomialRoom, 1, (Option.none : Option FieldType), [])
abbrev mX9_needSpan : bw_M := (yX9_needSpan, cX9_needSpan, 1, (Option.none : Option FieldType), [])
abbrev mX9_matrixAt : bw_M := (yX9_matrixAt, cX9_matrixAt, 3, (Option.some (FieldType.object "ByteFields$Matrix")), [])
abbrev mX9_placeIn : bw_M := (yX9_placeIn, cX9_placeIn, 3, (Option.some FieldType.int), [])
abbrev mX9_polynomialAt : bw_M := (yX9_polynomialAt, cX9_polynomialAt, 3, (Option.some (FieldType.object "ByteFields$Polynomial")), [])
abbrev mX9_keepMatrix : bw_M := (yX9_keepMatrix, cX9_keepMatrix, 3, (Option.some FieldType.int), [])
abbrev mX9_keepPolynomial : bw_M := (yX9_keepPolynomial, cX9_keepPolynomial, 4, (Option.some FieldType.int), [])
abbrev mX9_hasAlike : bw_M := (yX9_hasAlike, cX9_hasAlike, 4, (Option.some FieldType.boolean), [])
abbrev mX9_hasXorOfAhead : bw_M := (yX9_hasXorOfAhead, cX9_hasXorOfAhead, 3, (Option.some FieldType.boolean), [])
abbrev mX9_xorOfChosen : bw_M := (yX9_xorOfChosen, cX9_xorOfChosen, 5, (Option.some FieldType.int), [])
abbrev mX9_valueOf : bw_M := (yX9_valueOf, cX9_valueOf, 5, (Option.some FieldType.int), [])
abbrev mX10_thrown : bw_M := (yX10_thrown, cX10_thrown, 1, (Option.some FieldType.int), [])
abbrev mX10_fail : bw_M := (yX10_fail, cX10_fail, 2, (Option.some FieldType.int), [])
abbrev mX10_init : bw_M := (yX10_init, cX10_init, 3, (Option.none : Option FieldType), [])
abbrev mX10_isPrime : bw_M := (yX10_isPrime, cX10_isPrime, 4, (Option.some FieldType.boolean), [])
abbrev mX10_degreeOf : bw_M := (yX10_degreeOf, cX10_degreeOf, 3, (Option.some FieldType.int), [])
abbrev mX10_restOf : bw_M := (yX10_restOf, cX10_restOf, 5, (Option.some FieldType.int), [])
abbrev mX10_isMember : bw_M := (yX10_isMember, cX10_isMember, 2, (Option.some FieldType.boolean), [])
abbrev mX10_mul : bw_M := (yX10_mul, cX10_mul, 6, (Option.some FieldType.int), [])
abbrev mX10_raised : bw_M := (yX10_raised, cX10_raised, 6, (Option.some FieldType.int), [])
abbrev mX10_inverse : bw_M := (yX10_inverse, cX10_inverse, 2, (Option.some FieldType.int), [])
abbrev mX10_factor : bw_M := (yX10_factor, cX10_factor, 1, (Option.some FieldType.int), [])
abbrev mX10_factors : bw_M := (yX10_factors, cX10_factors, 1, (Option.some FieldType.int), [])
abbrev mX10_orderOf : bw_M := (yX10_orderOf, cX10_orderOf, 4, (Option.some FieldType.int), [])
abbrev mX10_poly : bw_M := (yX10_poly, cX10_poly, 1, (Option.some FieldType.int), [])
abbrev mX10_generator : bw_M := (yX10_generator, cX10_generator, 1, (Option.some FieldType.int), [])
abbrev mX10_product : bw_M := (yX10_product, cX10_product, 3, (Option.some FieldType.int), [])
abbrev mX10_quotient : bw_M := (yX10_quotient, cX10_quotient, 3, (Option.some FieldType.int), [])
abbrev mX10_power : bw_M := (yX10_power, cX10_power, 6, (Option.some FieldType.int), [])
abbrev mX10_log : bw_M := (yX10_log, cX10_log, 11, (Option.some FieldType.int), [])
abbrev mX10_order : bw_M := (yX10_order, cX10_order, 2, (Option.some FieldType.int), [])
abbrev mX10_put : bw_M := (yX10_put, cX10_put, 2, (Option.some FieldType.int), [])
abbrev mX10_row : bw_M := (yX10_row, cX10_row, 2, (Option.some FieldType.int), [])
abbrev mX10_drop : bw_M := (yX10_drop, cX10_drop, 2, (Option.some FieldType.int), [])
abbrev mX10_hasAlike : bw_M := (yX10_hasAlike, cX10_hasAlike, 6, (Option.some FieldType.boolean), [])
abbrev mX10_isSize : bw_M := (yX10_isSize, cX10_isSize, 1, (Option.some FieldType.boolean), [])
abbrev mX10_isMatrix : bw_M := (yX10_isMatrix, cX10_isMatrix, 2, (Option.some FieldType.boolean), [])
abbrev mX10_at : bw_M := (yX10_at, cX10_at, 4, (Option.some FieldType.int), [])
abbrev mX10_made : bw_M := (yX10_made, cX10_made, 4, (Option.some FieldType.int), [])
abbrev mX10_matrix : bw_M := (yX10_matrix, cX10_matrix, 3, (Option.some FieldType.int), [])
abbrev mX10_powers : bw_M := (yX10_powers, cX10_powers, 6, (Option.some FieldType.int), [])
abbrev mX10_sums : bw_M := (yX10_sums, cX10_sums, 6, (Option.some FieldType.int), [])
abbrev mX10_size : bw_M := (yX10_size, cX10_size, 3, (Option.some FieldType.int), [])
abbrev mX10_isCell : bw_M := (yX10_isCell, cX10_isCell, 4, (Option.some FieldType.boolean), [])
abbrev mX10_cell : bw_M := (yX10_cell, cX10_cell, 4, (Option.some FieldType.int), [])
abbrev mX10_set : bw_M := (yX10_set, cX10_set, 6, (Option.some FieldType.int), [])
abbrev mX10_times : bw_M := (yX10_times, cX10_times, 8, (Option.some FieldType.int), [])
abbrev mX10_bitsOf : bw_M := (yX10_bitsOf, cX10_bitsOf, 3, (Option.some FieldType.int), [])
abbrev mX10_minors : bw_M := (yX10_minors, cX10_minors, 7, (Option.none : Option FieldType), [])
abbrev mX10_singular : bw_M := (yX10_singular, cX10_singular, 5, (Option.some FieldType.int), [])
abbrev mX10_determinant : bw_M := (yX10_determinant, cX10_determinant, 3, (Option.some FieldType.int), [])
abbrev mX10_invert : bw_M := (yX10_invert, cX10_invert, 8, (Option.some FieldType.int), [])
abbrev mX10_rank : bw_M := (yX10_rank, cX10_rank, 5, (Option.some FieldType.int), [])
abbrev mX10_solve : bw_M := (yX10_solve, cX10_solve, 11, (Option.some FieldType.int), [])
abbrev mX10_isPolynomial : bw_M := (yX10_isPolynomial, cX10_isPolynomial, 2, (Option.some FieldType.boolean), [])
abbrev mX10_high : bw_M := (yX10_high, cX10_high, 2, (Option.some FieldType.int), [])
abbrev mX10_nothing : bw_M := (yX10_nothing, cX10_nothing, 2, (Option.none : Option FieldType), [])
abbrev mX10_copy : bw_M := (yX10_copy, cX10_copy, 3, (Option.none : Option FieldType), [])
abbrev mX10_load : bw_M := (yX10_load, cX10_load, 4, (Option.none : Option FieldType), [])
abbrev mX10_kept : bw_M := (yX10_kept, cX10_kept, 3, (Option.some FieldType.int), [])
abbrev mX10_at_ : bw_M := (yX10_at_, cX10_at_, 5, (Option.some FieldType.int), [])
abbrev mX10_polynomial : bw_M := (yX10_polynomial, cX10_polynomial, 2, (Option.some FieldType.int), [])
abbrev mX10_point : bw_M := (yX10_point, cX10_point, 6, (Option.none : Option FieldType), [])
abbrev mX10_begin : bw_M := (yX10_begin, cX10_begin, 1, (Option.none : Option FieldType), [])
abbrev mX10_through : bw_M := (yX10_through, cX10_through, 2, (Option.some FieldType.int), [])
abbrev mX10_degree : bw_M := (yX10_degree, cX10_degree, 2, (Option.some FieldType.int), [])
abbrev mX10_coefficient : bw_M := (yX10_coefficient, cX10_coefficient, 3, (Option.some FieldType.int), [])
abbrev mX10_value : bw_M := (yX10_value, cX10_value, 3, (Option.some FieldType.int), [])
abbrev mX10_plus : bw_M := (yX10_plus, cX10_plus, 4, (Option.some FieldType.int), [])
abbrev mX10_multiply : bw_M := (yX10_multiply, cX10_multiply, 5, (Option.some FieldType.int), [])
abbrev mX10_split : bw_M := (yX10_split, cX10_split, 8, (Option.none : Option FieldType), [])
abbrev mX10_divide : bw_M := (yX10_divide, cX10_divide, 4, (Option.some FieldType.int), [])
abbrev mX10_divisor : bw_M := (yX10_divisor, cX10_divisor, 6, (Option.none : Option FieldType), [])
abbrev mX10_common : bw_M := (yX10_common, cX10_common, 3, (Option.some FieldType.int), [])
abbrev mX10_root : bw_M := (yX10_root, cX10_root, 4, (Option.some FieldType.int), [])
abbrev mX10_often : bw_M := (yX10_often, cX10_often, 4, (Option.some FieldType.int), [])
abbrev mX10_square : bw_M := (yX10_square, cX10_square, 3, (Option.none : Option FieldType), [])
abbrev mX10_lookAtParts : bw_M := (yX10_lookAtParts, cX10_lookAtParts, 4, (Option.none : Option FieldType), [])
abbrev mX10_parts : bw_M := (yX10_parts, cX10_parts, 3, (Option.some FieldType.int), [])
abbrev mX10_span : bw_M := (yX10_span, cX10_span, 5, (Option.some FieldType.int), [])
abbrev mX10_forth : bw_M := (yX10_forth, cX10_forth, 3, (Option.some FieldType.int), [])
abbrev mX10_back : bw_M := (yX10_back, cX10_back, 2, (Option.some FieldType.int), [])
abbrev mX10_told : bw_M := (yX10_told, cX10_told, 2, (Option.some FieldType.int), [])
abbrev mJx00060_init_a7421 : bw_M := (yJx00060_init_a7421, cJx00060_init_a7421, 2, (Option.none : Option FieldType), [])
abbrev mJ6_numberOfLeadingZeros_0f7a4 : bw_M := (yJ6_numberOfLeadingZeros_0f7a4, cJ6_numberOfLeadingZeros_0f7a4, 2, (Option.some FieldType.int), [])
abbrev mJ6_numberOfTrailingZeros_0f7a4 : bw_M := (yJ6_numberOfTrailingZeros_0f7a4, cJ6_numberOfTrailingZeros_0f7a4, 2, (Option.some FieldType.int), [])
abbrev mJ6_bitCount_0f7a4 : bw_M := (yJ6_bitCount_0f7a4, cJ6_bitCount_0f7a4, 1, (Option.some FieldType.int), [])
abbrev mJ9_max_7cf53 : bw_M := (yJ9_max_7cf53, cJ9_max_7cf53, 2, (Option.some FieldType.int), [])
abbrev mL_cell : bw_M := (yL_cell, cL_cell, 2, (Option.some FieldType.int), [])
abbrev mL_product : bw_M := (yL_product, cL_product, 5, (Option.some FieldType.int), [(0, 10, 13, 13)])
abbrev mL_quotient : bw_M := (yL_quotient, cL_quotient, 5, (Option.some FieldType.int), [(0, 10, 13, 13), (0, 10, 17, 18)])
abbrev mL_power : bw_M := (yL_power, cL_power, 6, (Option.some FieldType.int), [(0, 11, 14, 13), (0, 11, 18, 18)])
abbrev mL_log : bw_M := (yL_log, cL_log, 4, (Option.some FieldType.int), [(0, 9, 12, 13), (0, 9, 15, 28)])
abbrev mL_order : bw_M := (yL_order, cL_order, 4, (Option.some FieldType.int), [(0, 9, 12, 13)])
abbrev mL_put : bw_M := (yL_put, cL_put, 4, (Option.some FieldType.int), [(0, 9, 12, 13), (0, 9, 15, 36)])
abbrev mL_row : bw_M := (yL_row, cL_row, 4, (Option.some FieldType.int), [(0, 9, 12, 41)])
abbrev mL_matrix : bw_M := (yL_matrix, cL_matrix, 5, (Option.some FieldType.int), [(0, 10, 13, 13), (0, 10, 17, 36)])
abbrev mL_powers : bw_M := (yL_powers, cL_powers, 5, (Option.some FieldType.int), [(0, 10, 13, 13), (0, 10, 17, 49), (0, 10, 21, 36)])
abbrev mL_sums : bw_M := (yL_sums, cL_sums, 5, (Option.some FieldType.int), [(0, 10, 13, 13), (0, 10, 17, 49), (0, 10, 21, 36)])
abbrev mL_size : bw_M := (yL_size, cL_size, 5, (Option.some FieldType.int), [(0, 10, 13, 41), (0, 10, 17, 13)])
abbrev mL_cell_ : bw_M := (yL_cell_, cL_cell_, 6, (Option.some FieldType.int), [(0, 12, 15, 41)])
abbrev mL_set : bw_M := (yL_set, cL_set, 7, (Option.some FieldType.int), [(0, 14, 17, 41), (0, 14, 21, 13)])
abbrev mL_times : bw_M := (yL_times, cL_times, 5, (Option.some FieldType.int), [(0, 10, 13, 41), (0, 10, 17, 49), (0, 10, 21, 36)])
abbrev mL_invert : bw_M := (yL_invert, cL_invert, 4, (Option.some FieldType.int), [(0, 9, 12, 41), (0, 9, 15, 49), (0, 9, 18, 36)])
abbrev mL_rank : bw_M := (yL_rank, cL_rank, 4, (Option.some FieldType.int), [(0, 9, 12, 41)])
abbrev mL_determinant : bw_M := (yL_determinant, cL_determinant, 4, (Option.some FieldType.int), [(0, 9, 12, 41), (0, 9, 15, 49)])
abbrev mL_singular : bw_M := (yL_singular, cL_singular, 4, (Option.some FieldType.int), [(0, 9, 12, 41)])
abbrev mL_solve : bw_M := (yL_solve, cL_solve, 4, (Option.some FieldType.int), [(0, 9, 12, 41), (0, 9, 15, 49)])
abbrev mL_polynomial : bw_M := (yL_polynomial, cL_polynomial, 3, (Option.some FieldType.int), [(0, 8, 11, 36)])
abbrev mL_through : bw_M := (yL_through, cL_through, 3, (Option.some FieldType.int), [(0, 8, 11, 49), (0, 8, 14, 36)])
abbrev mL_degree : bw_M := (yL_degree, cL_degree, 4, (Option.some FieldType.int), [(0, 9, 12, 41)])
abbrev mL_coefficient : bw_M := (yL_coefficient, cL_coefficient, 5, (Option.some FieldType.int), [(0, 10, 13, 41)])
abbrev mL_value : bw_M := (yL_value, cL_value, 5, (Option.some FieldType.int), [(0, 10, 13, 41), (0, 10, 17, 13)])
abbrev mL_plus : bw_M := (yL_plus, cL_plus, 5, (Option.some FieldType.int), [(0, 10, 13, 41), (0, 10, 17, 36)])
abbrev mL_multiply : bw_M := (yL_multiply, cL_multiply, 5, (Option.some FieldType.int), [(0, 10, 13, 41), (0, 10, 17, 36)])
abbrev mL_divide : bw_M := (yL_divide, cL_divide, 6, (Option.some FieldType.int), [(0, 12, 15, 41), (0, 12, 19, 18), (0, 12, 23, 36)])
abbrev mL_common : bw_M := (yL_common, cL_common, 5, (Option.some FieldType.int), [(0, 10, 13, 41), (0, 10, 17, 36)])
abbrev mL_root : bw_M := (yL_root, cL_root, 5, (Option.some FieldType.int), [(0, 10, 13, 41)])
abbrev mL_often : bw_M := (yL_often, cL_often, 5, (Option.some FieldType.int), [(0, 10, 13, 41), (0, 10, 17, 13)])
abbrev mL_parts : bw_M := (yL_parts, cL_parts, 5, (Option.some FieldType.int), [(0, 10, 13, 41), (0, 10, 17, 13)])
abbrev mL_span : bw_M := (yL_span, cL_span, 3, (Option.some FieldType.int), [(0, 8, 11, 49)])
abbrev mL_forth : bw_M := (yL_forth, cL_forth, 4, (Option.some FieldType.int), [(0, 9, 12, 41), (0, 9, 15, 49)])
abbrev mL_back : bw_M := (yL_back, cL_back, 3, (Option.some FieldType.int), [(0, 8, 11, 49), (0, 8, 14, 36)])
abbrev mL_told : bw_M := (yL_told, cL_told, 4, (Option.some FieldType.int), [(0, 9, 12, 13)])
abbrev mL_law : bw_M := (yL_law, cL_law, 7, some .boolean, [])
theorem bw_tat {l : List Cond} (h : l.all (fun w => decide (w ∈ lw_tbl) && (goodWord w || bw_fc w)) = true) : ∀ w ∈ l, w ∈ bw_uw ∨ w ∈ bw_fw := by
  intro w hw
  have h1 := List.all_eq_true.mp h w hw
  simp only [Bool.or_eq_true, Bool.and_eq_true, decide_eq_true_eq] at h1
  rcases h1.2 with h2 | h2
  · exact Or.inl (List.mem_filter.mpr ⟨h1.1, h2⟩)
  · exact Or.inr (List.mem_filter.mpr ⟨h1.1, h2⟩)
theorem pX0_9 : bw_fp RX0 9 2 0 (.object "ByteFields$Field") true := ⟨RX0, TX0, 1, tyX0, rfl, by decide, uX_X0, w_230, tyX0_ok, nmX0, rfl, (fun h => by first | rfl | (cases h)), rfl⟩
theorem lX0_15 : bw_fl RX0 15 9 1 := ⟨RX7, TX7, 3, rfl, by decide, uX_X7, w_97⟩
theorem vX0_21 : bw_cv RX0 21 mX0_divideInPlace 2 2 := ⟨⟨w_969, w_59, w_972, ⟨by decide, by decide⟩, by decide +kernel⟩, w_971, w_21, _, rfl, rfl⟩
theorem lX0_25 : bw_fl RX0 25 9 0 := ⟨RX7, TX7, 3, rfl, by decide, uX_X7, w_92⟩
theorem vX0_29 : bw_cv RX0 29 mX7_settle 1 9 := ⟨⟨w_976, w_54, w_868, ⟨by decide, by decide⟩, by decide +kernel⟩, w_866, w_867, _, rfl, rfl⟩
theorem vX0_33 : bw_cv RX0 33 mX7_clear 0 9 := ⟨⟨w_981, w_54, w_863, ⟨by decide, by decide⟩, by decide +kernel⟩, w_861, w_862, _, rfl, rfl⟩
theorem vX0_36 : bw_cv RX0 36 mX7_shiftDown 1 9 := ⟨⟨w_982, w_54, w_985, ⟨by decide, by decide⟩, by decide +kernel⟩, w_983, w_984, _, rfl, rfl⟩
theorem lX0_9 : bw_fl RX0 9 2 0 := ⟨RX0, TX0, 1, rfl, by decide, uX_X0, w_230⟩
theorem vX0_39 : bw_cv RX0 39 mX3_inverse 1 5 := ⟨⟨w_973, w_55, w_503, ⟨by decide, by decide⟩, by decide +kernel⟩, w_501, w_502, _, rfl, rfl⟩
theorem vX0_45 : bw_cv RX0 45 mX3_mul 2 5 := ⟨⟨w_974, w_55, w_265, ⟨by decide, by decide⟩, by decide +kernel⟩, w_263, w_264, _, rfl, rfl⟩
theorem vX0_49 : bw_cv RX0 49 mX3_addMultiple 6 5 := ⟨⟨w_975, w_55, w_730, ⟨by decide, by decide⟩, by decide +kernel⟩, w_728, w_729, _, rfl, rfl⟩
theorem vX0_53 : bw_cv RX0 53 mX0_toRest 2 2 := ⟨⟨w_997, w_59, w_968, ⟨by decide, by decide⟩, by decide +kernel⟩, w_966, w_967, _, rfl, rfl⟩
theorem vX0_56 : bw_cv RX0 56 mX7_copyFrom 1 9 := ⟨⟨w_998, w_54, w_876, ⟨by decide, by decide⟩, by decide +kernel⟩, w_874, w_875, _, rfl, rfl⟩
theorem vX0_60 : bw_cv RX0 60 mX3_scale 3 5 := ⟨⟨w_999, w_55, w_774, ⟨by decide, by decide⟩, by decide +kernel⟩, w_772, w_773, _, rfl, rfl⟩
theorem pX0_15 : bw_fp RX0 15 9 1 (.int) false := ⟨RX7, TX7, 3, tyX7, rfl, by decide, uX_X7, w_97, tyX7_ok, nmX7, rfl, (fun h => by first | rfl | (cases h)), rfl⟩
theorem cX1_9 : Cond.classLink RX1 9 "[[I" ∈ bw_uw := w_185
theorem pX1_11 : bw_fp RX1 11 3 1 (.array (.array .int)) true := ⟨RX1, TX1, 7, tyX1, rfl, by decide, uX_X1, w_188, tyX1_ok, nmX1, rfl, (fun h => by first | rfl | (cases h)), rfl⟩
theorem pX1_16 : bw_fp RX1 16 3 2 (.array .int) true := ⟨RX1, TX1, 7, tyX1, rfl, by decide, uX_X1, w_189, tyX1_ok, nmX1, rfl, (fun h => by first | rfl | (cases h)), rfl⟩
theorem pX1_20 : bw_fp RX1 20 3 0 (.object "ByteFields$Field") true := ⟨RX1, TX1, 7, tyX1, rfl, by decide, uX_X1, w_187, tyX1_ok, nmX1, rfl, (fun h => by first | rfl | (cases h)), rfl⟩
theorem lX1_24 : bw_fl RX1 24 7 0 := ⟨RX5, TX5, 3, rfl, by decide, uX_X5, w_629⟩
theorem pX1_30 : bw_fp RX1 30 3 3 (.int) false := ⟨RX1, TX1, 7, tyX1, rfl, by decide, uX_X1, w_190, tyX1_ok, nmX1, rfl, (fun h => by first | rfl | (cases h)), rfl⟩
theorem lX1_33 : bw_fl RX1 33 7 1 := ⟨RX5, TX5, 3, rfl, by decide, uX_X5, w_633⟩
theorem pX1_36 : bw_fp RX1 36 3 4 (.int) false := ⟨RX1, TX1, 7, tyX1, rfl, by decide, uX_X1, w_191, tyX1_ok, nmX1, rfl, (fun h => by first | rfl | (cases h)), rfl⟩
theorem lX1_30 : bw_fl RX1 30 3 3 := ⟨RX1, TX1, 7, rfl, by decide, uX_X1, w_190⟩
theorem lX1_39 : bw_fl RX1 39 7 2 := ⟨RX5, TX5, 3, rfl, by decide, uX_X5, w_637⟩
theorem lX1_36 : bw_fl RX1 36 3 4 := ⟨RX1, TX1, 7, rfl, by decide, uX_X1, w_191⟩
theorem lX1_11 : bw_fl RX1 11 3 1 := ⟨RX1, TX1, 7, rfl, by decide, uX_X1, w_188⟩
theorem pX1_47 : bw_fp RX1 47 3 5 (.int) false := ⟨RX1, TX1, 7, tyX1, rfl, by decide, uX_X1, w_192, tyX1_ok, nmX1, rfl, (fun h => by first | rfl | (cases h)), rfl⟩
theorem pX1_50 : bw_fp RX1 50 3 6 (.int) false := ⟨RX1, TX1, 7, tyX1, rfl, by decide, uX_X1, w_193, tyX1_ok, nmX1, rfl, (fun h => by first | rfl | (cases h)), rfl⟩
theorem vX1_53 : bw_cv RX1 53 mX1_rowWithMember 1 3 := ⟨⟨w_757, w_57, w_760, ⟨by decide, by decide⟩, by decide +kernel⟩, w_759, w_11, _, rfl, rfl⟩
theorem lX1_16 : bw_fl RX1 16 3 2 := ⟨RX1, TX1, 7, rfl, by decide, uX_X1, w_189⟩
theorem lX1_47 : bw_fl RX1 47 3 5 := ⟨RX1, TX1, 7, rfl, by decide, uX_X1, w_192⟩
theorem vX1_57 : bw_cv RX1 57 mX1_exchange 2 3 := ⟨⟨w_761, w_57, w_764, ⟨by decide, by decide⟩, by decide +kernel⟩, w_763, w_12, _, rfl, rfl⟩
theorem lX1_20 : bw_fl RX1 20 3 0 := ⟨RX1, TX1, 7, rfl, by decide, uX_X1, w_187⟩
theorem lX1_50 : bw_fl RX1 50 3 6 := ⟨RX1, TX1, 7, rfl, by decide, uX_X1, w_193⟩
theorem vX1_61 : bw_cv RX1 61 mX3_mul 2 5 := ⟨⟨w_765, w_55, w_265, ⟨by decide, by decide⟩, by decide +kernel⟩, w_263, w_264, _, rfl, rfl⟩
theorem vX1_67 : bw_cv RX1 67 mX1_free 1 3 := ⟨⟨w_766, w_57, w_769, ⟨by decide, by decide⟩, by decide +kernel⟩, w_768, w_13, _, rfl, rfl⟩
theorem vX1_71 : bw_cv RX1 71 mX3_inverse 1 5 := ⟨⟨w_770, w_55, w_503, ⟨by decide, by decide⟩, by decide +kernel⟩, w_501, w_502, _, rfl, rfl⟩
theorem vX1_74 : bw_cv RX1 74 mX3_scale 3 5 := ⟨⟨w_771, w_55, w_774, ⟨by decide, by decide⟩, by decide +kernel⟩, w_772, w_773, _, rfl, rfl⟩
theorem vX1_78 : bw_cv RX1 78 mX3_addMultiple 6 5 := ⟨⟨w_775, w_55, w_730, ⟨by decide, by decide⟩, by decide +kernel⟩, w_728, w_729, _, rfl, rfl⟩
theorem nX2_9 : bw_nl RX2 9 9 3 [.null, .int 0, .null] := ⟨RX7, TX7, tyX7, rfl, uX_X7, tyX7_ok, w_295, w_86, w_54, by decide⟩
theorem iX2_11 : bw_ci RX2 11 mX7_init 1 := ⟨⟨w_296, w_54, w_89, ⟨by decide, by decide⟩, by decide +kernel⟩, w_88, rfl, rfl⟩
theorem pX2_14 : bw_fp RX2 14 4 2 (.object "ByteFields$Polynomial") true := ⟨RX2, TX2, 6, tyX2, rfl, by decide, uX_X2, w_299, tyX2_ok, nmX2, rfl, (fun h => by first | rfl | (cases h)), rfl⟩
theorem pX2_20 : bw_fp RX2 20 4 3 (.object "ByteFields$Polynomial") true := ⟨RX2, TX2, 6, tyX2, rfl, by decide, uX_X2, w_300, tyX2_ok, nmX2, rfl, (fun h => by first | rfl | (cases h)), rfl⟩
theorem pX2_23 : bw_fp RX2 23 4 4 (.object "ByteFields$Polynomial") true := ⟨RX2, TX2, 6, tyX2, rfl, by decide, uX_X2, w_301, tyX2_ok, nmX2, rfl, (fun h => by first | rfl | (cases h)), rfl⟩
theorem pX2_26 : bw_fp RX2 26 4 5 (.object "ByteFields$Polynomial") true := ⟨RX2, TX2, 6, tyX2, rfl, by decide, uX_X2, w_302, tyX2_ok, nmX2, rfl, (fun h => by first | rfl | (cases h)), rfl⟩
theorem pX2_29 : bw_fp RX2 29 4 0 (.object "ByteFields$Field") true := ⟨RX2, TX2, 6, tyX2, rfl, by decide, uX_X2, w_297, tyX2_ok, nmX2, rfl, (fun h => by first | rfl | (cases h)), rfl⟩
theorem pX2_33 : bw_fp RX2 33 4 1 (.object "ByteFields$Division") true := ⟨RX2, TX2, 6, tyX2, rfl, by decide, uX_X2, w_298, tyX2_ok, nmX2, rfl, (fun h => by first | rfl | (cases h)), rfl⟩
theorem lX2_14 : bw_fl RX2 14 4 2 := ⟨RX2, TX2, 6, rfl, by decide, uX_X2, w_299⟩
theorem vX2_37 : bw_cv RX2 37 mX7_copyFrom 1 9 := ⟨⟨w_1061, w_54, w_876, ⟨by decide, by decide⟩, by decide +kernel⟩, w_874, w_875, _, rfl, rfl⟩
theorem lX2_20 : bw_fl RX2 20 4 3 := ⟨RX2, TX2, 6, rfl, by decide, uX_X2, w_300⟩
theorem vX2_41 : bw_cv RX2 41 mX7_becomeX 0 9 := ⟨⟨w_1062, w_54, w_1019, ⟨by decide, by decide⟩, by decide +kernel⟩, w_1017, w_1018, _, rfl, rfl⟩
theorem lX2_33 : bw_fl RX2 33 4 1 := ⟨RX2, TX2, 6, rfl, by decide, uX_X2, w_298⟩
theorem vX2_44 : bw_cv RX2 44 mX0_toRest 2 2 := ⟨⟨w_1063, w_59, w_968, ⟨by decide, by decide⟩, by decide +kernel⟩, w_966, w_967, _, rfl, rfl⟩
theorem lX2_50 : bw_fl RX2 50 9 1 := ⟨RX7, TX7, 3, rfl, by decide, uX_X7, w_98⟩
theorem lX2_29 : bw_fl RX2 29 4 0 := ⟨RX2, TX2, 6, rfl, by decide, uX_X2, w_297⟩
theorem lX2_54 : bw_fl RX2 54 5 0 := ⟨RX3, TX3, 6, rfl, by decide, uX_X3, w_157⟩
theorem vX2_59 : bw_cv RX2 59 mX0_toSquareRest 2 2 := ⟨⟨w_1064, w_59, w_1025, ⟨by decide, by decide⟩, by decide +kernel⟩, w_1023, w_1024, _, rfl, rfl⟩
theorem vX2_62 : bw_cv RX2 62 mX2_takeParts 1 4 := ⟨⟨w_1065, w_62, w_1068, ⟨by decide, by decide⟩, by decide +kernel⟩, w_1067, w_24, _, rfl, rfl⟩
theorem lX2_26 : bw_fl RX2 26 4 5 := ⟨RX2, TX2, 6, rfl, by decide, uX_X2, w_302⟩
theorem vX2_66 : bw_cv RX2 66 mX7_addScaled 3 9 := ⟨⟨w_1069, w_54, w_943, ⟨by decide, by decide⟩, by decide +kernel⟩, w_941, w_942, _, rfl, rfl⟩
theorem lX2_23 : bw_fl RX2 23 4 4 := ⟨RX2, TX2, 6, rfl, by decide, uX_X2, w_301⟩
theorem vX2_70 : bw_cv RX2 70 mX0_toGreatestDivisor 2 2 := ⟨⟨w_1070, w_59, w_996, ⟨by decide, by decide⟩, by decide +kernel⟩, w_994, w_995, _, rfl, rfl⟩
theorem vX2_73 : bw_cv RX2 73 mX0_toQuotient 2 2 := ⟨⟨w_1071, w_59, w_980, ⟨by decide, by decide⟩, by decide +kernel⟩, w_978, w_979, _, rfl, rfl⟩
theorem pX3_7 : bw_fp RX3 7 5 0 (.int) true := ⟨RX3, TX3, 6, tyX3, rfl, by decide, uX_X3, w_155, tyX3_ok, nmX3, rfl, (fun h => by first | rfl | (cases h)), rfl⟩
theorem pX3_13 : bw_fp RX3 13 5 1 (.int) true := ⟨RX3, TX3, 6, tyX3, rfl, by decide, uX_X3, w_158, tyX3_ok, nmX3, rfl, (fun h => by first | rfl | (cases h)), rfl⟩
theorem lX3_13 : bw_fl RX3 13 5 1 := ⟨RX3, TX3, 6, rfl, by decide, uX_X3, w_158⟩
theorem pX3_16 : bw_fp RX3 16 5 2 (.int) true := ⟨RX3, TX3, 6, tyX3, rfl, by decide, uX_X3, w_160, tyX3_ok, nmX3, rfl, (fun h => by first | rfl | (cases h)), rfl⟩
theorem lX3_16 : bw_fl RX3 16 5 2 := ⟨RX3, TX3, 6, rfl, by decide, uX_X3, w_160⟩
theorem sX3_19 : bw_cs RX3 19 mX3_firstUnsplit 2 := ⟨⟨w_121, w_55, w_123, ⟨by decide, by decide⟩, by decide +kernel⟩, w_122⟩
theorem pX3_23 : bw_fp RX3 23 5 3 (.int) true := ⟨RX3, TX3, 6, tyX3, rfl, by decide, uX_X3, w_161, tyX3_ok, nmX3, rfl, (fun h => by first | rfl | (cases h)), rfl⟩
theorem vX3_26 : bw_cv RX3 26 mX3_leastGenerator 0 5 := ⟨⟨w_137, w_55, w_140, ⟨by decide, by decide⟩, by decide +kernel⟩, w_139, w_0, _, rfl, rfl⟩
theorem pX3_30 : bw_fp RX3 30 5 4 (.int) true := ⟨RX3, TX3, 6, tyX3, rfl, by decide, uX_X3, w_163, tyX3_ok, nmX3, rfl, (fun h => by first | rfl | (cases h)), rfl⟩
theorem pX3_33 : bw_fp RX3 33 5 5 (.array .int) true := ⟨RX3, TX3, 6, tyX3, rfl, by decide, uX_X3, w_165, tyX3_ok, nmX3, rfl, (fun h => by first | rfl | (cases h)), rfl⟩
theorem lX3_33 : bw_fl RX3 33 5 5 := ⟨RX3, TX3, 6, rfl, by decide, uX_X3, w_165⟩
theorem lX3_30 : bw_fl RX3 30 5 4 := ⟨RX3, TX3, 6, rfl, by decide, uX_X3, w_163⟩
theorem vX3_37 : bw_cv RX3 37 mX3_slowProduct 2 5 := ⟨⟨w_151, w_55, w_154, ⟨by decide, by decide⟩, by decide +kernel⟩, w_153, w_3, _, rfl, rfl⟩
theorem sX3_40 : bw_cs RX3 40 mX3_splits 2 := ⟨⟨w_124, w_55, w_126, ⟨by decide, by decide⟩, by decide +kernel⟩, w_125⟩
theorem sX3_44 : bw_cs RX3 44 mX3_restOfBits 2 := ⟨⟨w_127, w_55, w_129, ⟨by decide, by decide⟩, by decide +kernel⟩, w_128⟩
theorem sX3_47 : bw_cs RX3 47 mX3_highestBit 1 := ⟨⟨w_130, w_55, w_132, ⟨by decide, by decide⟩, by decide +kernel⟩, w_131⟩
theorem sX3_51 : bw_cs RX3 51 mJ6_numberOfLeadingZeros_0f7a4 1 := ⟨⟨w_133, w_56, w_135, ⟨by decide, by decide⟩, by decide +kernel⟩, w_134⟩
theorem lX3_7 : bw_fl RX3 7 5 0 := ⟨RX3, TX3, 6, rfl, by decide, uX_X3, w_155⟩
theorem lX3_23 : bw_fl RX3 23 5 3 := ⟨RX3, TX3, 6, rfl, by decide, uX_X3, w_161⟩
theorem vX3_56 : bw_cv RX3 56 mX3_generates 1 5 := ⟨⟨w_141, w_55, w_144, ⟨by decide, by decide⟩, by decide +kernel⟩, w_143, w_1, _, rfl, rfl⟩
theorem gX3_60 : Cond.fieldLink RX3 60 "ByteFields$Field" "PRIMES" "[I" ∈ bw_uw := w_145
theorem vX3_63 : bw_cv RX3 63 mX3_slowPower 2 5 := ⟨⟨w_147, w_55, w_150, ⟨by decide, by decide⟩, by decide +kernel⟩, w_149, w_2, _, rfl, rfl⟩
theorem kX3_66 : Cond.constant RX3 66 (65535) ∈ bw_uw := w_266
theorem vX3_67 : bw_cv RX3 67 mX3_inverse 1 5 := ⟨⟨w_500, w_55, w_503, ⟨by decide, by decide⟩, by decide +kernel⟩, w_501, w_502, _, rfl, rfl⟩
theorem vX3_70 : bw_cv RX3 70 mX3_mul 2 5 := ⟨⟨w_504, w_55, w_265, ⟨by decide, by decide⟩, by decide +kernel⟩, w_263, w_264, _, rfl, rfl⟩
theorem vX3_73 : bw_cv RX3 73 mX3_logOf 1 5 := ⟨⟨w_517, w_55, w_520, ⟨by decide, by decide⟩, by decide +kernel⟩, w_518, w_519, _, rfl, rfl⟩
theorem pX4_9 : bw_fp RX4 9 6 1 (.array .int) true := ⟨RX4, TX4, 3, tyX4, rfl, by decide, uX_X4, w_241, tyX4_ok, nmX4, rfl, (fun h => by first | rfl | (cases h)), rfl⟩
theorem pX4_15 : bw_fp RX4 15 6 2 (.array .int) true := ⟨RX4, TX4, 3, tyX4, rfl, by decide, uX_X4, w_242, tyX4_ok, nmX4, rfl, (fun h => by first | rfl | (cases h)), rfl⟩
theorem pX4_18 : bw_fp RX4 18 6 0 (.object "ByteFields$Field") true := ⟨RX4, TX4, 3, tyX4, rfl, by decide, uX_X4, w_240, tyX4_ok, nmX4, rfl, (fun h => by first | rfl | (cases h)), rfl⟩
theorem lX4_9 : bw_fl RX4 9 6 1 := ⟨RX4, TX4, 3, rfl, by decide, uX_X4, w_241⟩
theorem lX4_15 : bw_fl RX4 15 6 2 := ⟨RX4, TX4, 3, rfl, by decide, uX_X4, w_242⟩
theorem lX4_18 : bw_fl RX4 18 6 0 := ⟨RX4, TX4, 3, rfl, by decide, uX_X4, w_240⟩
theorem vX4_22 : bw_cv RX4 22 mX3_ratio 2 5 := ⟨⟨w_894, w_55, w_499, ⟨by decide, by decide⟩, by decide +kernel⟩, w_497, w_498, _, rfl, rfl⟩
theorem vX4_28 : bw_cv RX4 28 mX7_clear 0 9 := ⟨⟨w_895, w_54, w_863, ⟨by decide, by decide⟩, by decide +kernel⟩, w_861, w_862, _, rfl, rfl⟩
theorem vX4_33 : bw_cv RX4 33 mX4_multiplyAndAdd 3 6 := ⟨⟨w_896, w_60, w_899, ⟨by decide, by decide⟩, by decide +kernel⟩, w_898, w_18, _, rfl, rfl⟩
theorem lX4_37 : bw_fl RX4 37 9 1 := ⟨RX7, TX7, 3, rfl, by decide, uX_X7, w_99⟩
theorem lX4_41 : bw_fl RX4 41 9 0 := ⟨RX7, TX7, 3, rfl, by decide, uX_X7, w_93⟩
theorem vX4_44 : bw_cv RX4 44 mX3_mul 2 5 := ⟨⟨w_900, w_55, w_265, ⟨by decide, by decide⟩, by decide +kernel⟩, w_263, w_264, _, rfl, rfl⟩
theorem vX4_47 : bw_cv RX4 47 mX7_settle 1 9 := ⟨⟨w_901, w_54, w_868, ⟨by decide, by decide⟩, by decide +kernel⟩, w_866, w_867, _, rfl, rfl⟩
theorem pX5_7 : bw_fp RX5 7 7 0 (.int) true := ⟨RX5, TX5, 3, tyX5, rfl, by decide, uX_X5, w_628, tyX5_ok, nmX5, rfl, (fun h => by first | rfl | (cases h)), rfl⟩
theorem pX5_13 : bw_fp RX5 13 7 1 (.int) true := ⟨RX5, TX5, 3, tyX5, rfl, by decide, uX_X5, w_632, tyX5_ok, nmX5, rfl, (fun h => by first | rfl | (cases h)), rfl⟩
theorem pX5_16 : bw_fp RX5 16 7 2 (.array .int) true := ⟨RX5, TX5, 3, tyX5, rfl, by decide, uX_X5, w_636, tyX5_ok, nmX5, rfl, (fun h => by first | rfl | (cases h)), rfl⟩
theorem cX6_9 : Cond.classLink RX6 9 "[[I" ∈ bw_uw := w_216
theorem pX6_11 : bw_fp RX6 11 8 1 (.array (.array .int)) true := ⟨RX6, TX6, 2, tyX6, rfl, by decide, uX_X6, w_218, tyX6_ok, nmX6, rfl, (fun h => by first | rfl | (cases h)), rfl⟩
theorem pX6_16 : bw_fp RX6 16 8 0 (.object "ByteFields$Field") true := ⟨RX6, TX6, 2, tyX6, rfl, by decide, uX_X6, w_217, tyX6_ok, nmX6, rfl, (fun h => by first | rfl | (cases h)), rfl⟩
theorem lX6_11 : bw_fl RX6 11 8 1 := ⟨RX6, TX6, 2, rfl, by decide, uX_X6, w_218⟩
theorem lX6_20 : bw_fl RX6 20 7 0 := ⟨RX5, TX5, 3, rfl, by decide, uX_X5, w_630⟩
theorem sX6_26 : bw_cs RX6 26 mJ6_bitCount_0f7a4 1 := ⟨⟨w_805, w_56, w_807, ⟨by decide, by decide⟩, by decide +kernel⟩, w_806⟩
theorem sX6_32 : bw_cs RX6 32 mJ6_numberOfTrailingZeros_0f7a4 1 := ⟨⟨w_811, w_56, w_813, ⟨by decide, by decide⟩, by decide +kernel⟩, w_812⟩
theorem vX6_35 : bw_cv RX6 35 mX6_addRow 3 8 := ⟨⟨w_814, w_58, w_817, ⟨by decide, by decide⟩, by decide +kernel⟩, w_816, w_14, _, rfl, rfl⟩
theorem lX6_39 : bw_fl RX6 39 7 1 := ⟨RX5, TX5, 3, rfl, by decide, uX_X5, w_634⟩
theorem vX6_42 : bw_cv RX6 42 mX6_expanded 4 8 := ⟨⟨w_818, w_58, w_821, ⟨by decide, by decide⟩, by decide +kernel⟩, w_820, w_15, _, rfl, rfl⟩
theorem lX6_16 : bw_fl RX6 16 8 0 := ⟨RX6, TX6, 2, rfl, by decide, uX_X6, w_217⟩
theorem lX6_46 : bw_fl RX6 46 7 2 := ⟨RX5, TX5, 3, rfl, by decide, uX_X5, w_638⟩
theorem vX6_50 : bw_cv RX6 50 mX3_mul 2 5 := ⟨⟨w_822, w_55, w_265, ⟨by decide, by decide⟩, by decide +kernel⟩, w_263, w_264, _, rfl, rfl⟩
theorem pX7_9 : bw_fp RX7 9 9 1 (.int) false := ⟨RX7, TX7, 3, tyX7, rfl, by decide, uX_X7, w_96, tyX7_ok, nmX7, rfl, (fun h => by first | rfl | (cases h)), rfl⟩
theorem pX7_15 : bw_fp RX7 15 9 2 (.array .int) false := ⟨RX7, TX7, 3, tyX7, rfl, by decide, uX_X7, w_102, tyX7_ok, nmX7, rfl, (fun h => by first | rfl | (cases h)), rfl⟩
theorem pX7_19 : bw_fp RX7 19 9 0 (.array .int) true := ⟨RX7, TX7, 3, tyX7, rfl, by decide, uX_X7, w_91, tyX7_ok, nmX7, rfl, (fun h => by first | rfl | (cases h)), rfl⟩
theorem lX7_9 : bw_fl RX7 9 9 1 := ⟨RX7, TX7, 3, rfl, by decide, uX_X7, w_96⟩
theorem lX7_19 : bw_fl RX7 19 9 0 := ⟨RX7, TX7, 3, rfl, by decide, uX_X7, w_91⟩
theorem vX7_22 : bw_cv RX7 22 mX7_clear 0 9 := ⟨⟨w_860, w_54, w_863, ⟨by decide, by decide⟩, by decide +kernel⟩, w_861, w_862, _, rfl, rfl⟩
theorem vX7_31 : bw_cv RX7 31 mX7_settle 1 9 := ⟨⟨w_865, w_54, w_868, ⟨by decide, by decide⟩, by decide +kernel⟩, w_866, w_867, _, rfl, rfl⟩
theorem vX7_35 : bw_cv RX7 35 mX7_load 2 9 := ⟨⟨w_877, w_54, w_859, ⟨by decide, by decide⟩, by decide +kernel⟩, w_857, w_858, _, rfl, rfl⟩
theorem vX7_39 : bw_cv RX7 39 mX3_addMultiple 6 5 := ⟨⟨w_944, w_55, w_730, ⟨by decide, by decide⟩, by decide +kernel⟩, w_728, w_729, _, rfl, rfl⟩
theorem sX7_45 : bw_cs RX7 45 mJ9_max_7cf53 2 := ⟨⟨w_945, w_76, w_947, ⟨by decide, by decide⟩, by decide +kernel⟩, w_946⟩
theorem nX8_9 : bw_nl RX8 9 9 3 [.null, .int 0, .null] := ⟨RX7, TX7, tyX7, rfl, uX_X7, tyX7_ok, w_256, w_86, w_54, by decide⟩
theorem iX8_11 : bw_ci RX8 11 mX7_init 1 := ⟨⟨w_257, w_54, w_89, ⟨by decide, by decide⟩, by decide +kernel⟩, w_88, rfl, rfl⟩
theorem pX8_14 : bw_fp RX8 14 10 4 (.object "ByteFields$Polynomial") true := ⟨RX8, TX8, 7, tyX8, rfl, by decide, uX_X8, w_271, tyX8_ok, nmX8, rfl, (fun h => by first | rfl | (cases h)), rfl⟩
theorem pX8_20 : bw_fp RX8 20 10 5 (.object "ByteFields$Polynomial") true := ⟨RX8, TX8, 7, tyX8, rfl, by decide, uX_X8, w_272, tyX8_ok, nmX8, rfl, (fun h => by first | rfl | (cases h)), rfl⟩
theorem pX8_23 : bw_fp RX8 23 10 6 (.object "ByteFields$Polynomial") true := ⟨RX8, TX8, 7, tyX8, rfl, by decide, uX_X8, w_273, tyX8_ok, nmX8, rfl, (fun h => by first | rfl | (cases h)), rfl⟩
theorem pX8_26 : bw_fp RX8 26 10 0 (.object "ByteFields$Field") true := ⟨RX8, TX8, 7, tyX8, rfl, by decide, uX_X8, w_267, tyX8_ok, nmX8, rfl, (fun h => by first | rfl | (cases h)), rfl⟩
theorem pX8_30 : bw_fp RX8 30 10 1 (.object "ByteFields$Division") true := ⟨RX8, TX8, 7, tyX8, rfl, by decide, uX_X8, w_268, tyX8_ok, nmX8, rfl, (fun h => by first | rfl | (cases h)), rfl⟩
theorem lX8_34 : bw_fl RX8 34 5 0 := ⟨RX3, TX3, 6, rfl, by decide, uX_X3, w_156⟩
theorem pX8_40 : bw_fp RX8 40 10 2 (.array .int) true := ⟨RX8, TX8, 7, tyX8, rfl, by decide, uX_X8, w_269, tyX8_ok, nmX8, rfl, (fun h => by first | rfl | (cases h)), rfl⟩
theorem lX8_40 : bw_fl RX8 40 10 2 := ⟨RX8, TX8, 7, rfl, by decide, uX_X8, w_269⟩
theorem vX8_44 : bw_cv RX8 44 mX8_valueAt 2 10 := ⟨⟨w_258, w_61, w_261, ⟨by decide, by decide⟩, by decide +kernel⟩, w_260, w_4, _, rfl, rfl⟩
theorem cX8_9 : Cond.classLink RX8 9 "ByteFields$Polynomial" ∈ bw_uw := w_256
theorem pX8_48 : bw_fp RX8 48 10 3 (.array (.object "ByteFields$Polynomial")) true := ⟨RX8, TX8, 7, tyX8, rfl, by decide, uX_X8, w_270, tyX8_ok, nmX8, rfl, (fun h => by first | rfl | (cases h)), rfl⟩
theorem lX8_48 : bw_fl RX8 48 10 3 := ⟨RX8, TX8, 7, rfl, by decide, uX_X8, w_270⟩
theorem lX8_26 : bw_fl RX8 26 10 0 := ⟨RX8, TX8, 7, rfl, by decide, uX_X8, w_267⟩
theorem vX8_52 : bw_cv RX8 52 mX3_mul 2 5 := ⟨⟨w_262, w_55, w_265, ⟨by decide, by decide⟩, by decide +kernel⟩, w_263, w_264, _, rfl, rfl⟩
theorem lX8_23 : bw_fl RX8 23 10 6 := ⟨RX8, TX8, 7, rfl, by decide, uX_X8, w_273⟩
theorem vX8_55 : bw_cv RX8 55 mX7_becomeX 0 9 := ⟨⟨w_1016, w_54, w_1019, ⟨by decide, by decide⟩, by decide +kernel⟩, w_1017, w_1018, _, rfl, rfl⟩
theorem lX8_30 : bw_fl RX8 30 10 1 := ⟨RX8, TX8, 7, rfl, by decide, uX_X8, w_268⟩
theorem vX8_58 : bw_cv RX8 58 mX0_toRest 2 2 := ⟨⟨w_1020, w_59, w_968, ⟨by decide, by decide⟩, by decide +kernel⟩, w_966, w_967, _, rfl, rfl⟩
theorem vX8_64 : bw_cv RX8 64 mX7_copyFrom 1 9 := ⟨⟨w_1021, w_54, w_876, ⟨by decide, by decide⟩, by decide +kernel⟩, w_874, w_875, _, rfl, rfl⟩
theorem vX8_68 : bw_cv RX8 68 mX0_toSquareRest 2 2 := ⟨⟨w_1022, w_59, w_1025, ⟨by decide, by decide⟩, by decide +kernel⟩, w_1023, w_1024, _, rfl, rfl⟩
theorem vX8_71 : bw_cv RX8 71 mX7_addScaled 3 9 := ⟨⟨w_1026, w_54, w_943, ⟨by decide, by decide⟩, by decide +kernel⟩, w_941, w_942, _, rfl, rfl⟩
theorem lX8_75 : bw_fl RX8 75 9 1 := ⟨RX7, TX7, 3, rfl, by decide, uX_X7, w_100⟩
theorem vX8_78 : bw_cv RX8 78 mX8_makeRests 1 10 := ⟨⟨w_1012, w_61, w_1015, ⟨by decide, by decide⟩, by decide +kernel⟩, w_1014, w_22, _, rfl, rfl⟩
theorem lX8_14 : bw_fl RX8 14 10 4 := ⟨RX8, TX8, 7, rfl, by decide, uX_X8, w_271⟩
theorem vX8_81 : bw_cv RX8 81 mX0_toGreatestDivisor 2 2 := ⟨⟨w_1027, w_59, w_996, ⟨by decide, by decide⟩, by decide +kernel⟩, w_994, w_995, _, rfl, rfl⟩
theorem vX8_84 : bw_cv RX8 84 mX8_keepLower 2 10 := ⟨⟨w_1028, w_61, w_1031, ⟨by decide, by decide⟩, by decide +kernel⟩, w_1030, w_23, _, rfl, rfl⟩
theorem lX8_20 : bw_fl RX8 20 10 5 := ⟨RX8, TX8, 7, rfl, by decide, uX_X8, w_272⟩
theorem vX8_88 : bw_cv RX8 88 mX0_toQuotient 2 2 := ⟨⟨w_1036, w_59, w_980, ⟨by decide, by decide⟩, by decide +kernel⟩, w_978, w_979, _, rfl, rfl⟩
theorem lX8_91 : bw_fl RX8 91 9 0 := ⟨RX7, TX7, 3, rfl, by decide, uX_X7, w_94⟩
theorem vX8_94 : bw_cv RX8 94 mX3_ratio 2 5 := ⟨⟨w_1037, w_55, w_499, ⟨by decide, by decide⟩, by decide +kernel⟩, w_497, w_498, _, rfl, rfl⟩
theorem vX8_97 : bw_cv RX8 97 mX7_addMember 1 9 := ⟨⟨w_1032, w_54, w_1035, ⟨by decide, by decide⟩, by decide +kernel⟩, w_1033, w_1034, _, rfl, rfl⟩
theorem nX9_9 : bw_nl RX9 9 9 3 [.null, .int 0, .null] := ⟨RX7, TX7, tyX7, rfl, uX_X7, tyX7_ok, w_85, w_86, w_54, by decide⟩
theorem iX9_11 : bw_ci RX9 11 mX7_init 1 := ⟨⟨w_87, w_54, w_89, ⟨by decide, by decide⟩, by decide +kernel⟩, w_88, rfl, rfl⟩
theorem pX9_14 : bw_fp RX9 14 11 7 (.object "ByteFields$Polynomial") true := ⟨RX9, TX9, 17, tyX9, rfl, by decide, uX_X9, w_323, tyX9_ok, nmX9, rfl, (fun h => by first | rfl | (cases h)), rfl⟩
theorem pX9_18 : bw_fp RX9 18 11 8 (.object "ByteFields$Polynomial") true := ⟨RX9, TX9, 17, tyX9, rfl, by decide, uX_X9, w_324, tyX9_ok, nmX9, rfl, (fun h => by first | rfl | (cases h)), rfl⟩
theorem pX9_21 : bw_fp RX9 21 11 9 (.array .int) true := ⟨RX9, TX9, 17, tyX9, rfl, by decide, uX_X9, w_325, tyX9_ok, nmX9, rfl, (fun h => by first | rfl | (cases h)), rfl⟩
theorem cX9_25 : Cond.classLink RX9 25 "ByteFields$Matrix" ∈ bw_uw := w_112
theorem pX9_27 : bw_fp RX9 27 11 11 (.array (.object "ByteFields$Matrix")) true := ⟨RX9, TX9, 17, tyX9, rfl, by decide, uX_X9, w_327, tyX9_ok, nmX9, rfl, (fun h => by first | rfl | (cases h)), rfl⟩
theorem cX9_9 : Cond.classLink RX9 9 "ByteFields$Polynomial" ∈ bw_uw := w_85
theorem pX9_31 : bw_fp RX9 31 11 13 (.array (.object "ByteFields$Polynomial")) true := ⟨RX9, TX9, 17, tyX9, rfl, by decide, uX_X9, w_329, tyX9_ok, nmX9, rfl, (fun h => by first | rfl | (cases h)), rfl⟩
theorem pX9_35 : bw_fp RX9 35 11 15 (.array .int) true := ⟨RX9, TX9, 17, tyX9, rfl, by decide, uX_X9, w_331, tyX9_ok, nmX9, rfl, (fun h => by first | rfl | (cases h)), rfl⟩
theorem nX9_38 : bw_nl RX9 38 5 6 [.int 0, .int 0, .int 0, .int 0, .int 0, .null] := ⟨RX3, TX3, tyX3, rfl, uX_X3, tyX3_ok, w_115, w_116, w_55, by decide⟩
theorem iX9_40 : bw_ci RX9 40 mX3_init 2 := ⟨⟨w_117, w_55, w_119, ⟨by decide, by decide⟩, by decide +kernel⟩, w_118, rfl, rfl⟩
theorem pX9_43 : bw_fp RX9 43 11 0 (.object "ByteFields$Field") true := ⟨RX9, TX9, 17, tyX9, rfl, by decide, uX_X9, w_316, tyX9_ok, nmX9, rfl, (fun h => by first | rfl | (cases h)), rfl⟩
theorem nX9_47 : bw_nl RX9 47 3 7 [.null, .null, .null, .int 0, .int 0, .int 0, .int 0] := ⟨RX1, TX1, tyX1, rfl, uX_X1, tyX1_ok, w_179, w_180, w_57, by decide⟩
theorem lX9_43 : bw_fl RX9 43 11 0 := ⟨RX9, TX9, 17, rfl, by decide, uX_X9, w_316⟩
theorem iX9_49 : bw_ci RX9 49 mX1_init 1 := ⟨⟨w_181, w_57, w_183, ⟨by decide, by decide⟩, by decide +kernel⟩, w_182, rfl, rfl⟩
theorem pX9_52 : bw_fp RX9 52 11 1 (.object "ByteFields$Elimination") true := ⟨RX9, TX9, 17, tyX9, rfl, by decide, uX_X9, w_317, tyX9_ok, nmX9, rfl, (fun h => by first | rfl | (cases h)), rfl⟩
theorem nX9_56 : bw_nl RX9 56 8 2 [.null, .null] := ⟨RX6, TX6, tyX6, rfl, uX_X6, tyX6_ok, w_210, w_211, w_58, by decide⟩
theorem iX9_58 : bw_ci RX9 58 mX6_init 1 := ⟨⟨w_212, w_58, w_214, ⟨by decide, by decide⟩, by decide +kernel⟩, w_213, rfl, rfl⟩
theorem pX9_59 : bw_fp RX9 59 11 2 (.object "ByteFields$Minors") true := ⟨RX9, TX9, 17, tyX9, rfl, by decide, uX_X9, w_318, tyX9_ok, nmX9, rfl, (fun h => by first | rfl | (cases h)), rfl⟩
theorem nX9_63 : bw_nl RX9 63 2 1 [.null] := ⟨RX0, TX0, tyX0, rfl, uX_X0, tyX0_ok, w_224, w_225, w_59, by decide⟩
theorem iX9_65 : bw_ci RX9 65 mX0_init 1 := ⟨⟨w_226, w_59, w_228, ⟨by decide, by decide⟩, by decide +kernel⟩, w_227, rfl, rfl⟩
theorem pX9_66 : bw_fp RX9 66 11 3 (.object "ByteFields$Division") true := ⟨RX9, TX9, 17, tyX9, rfl, by decide, uX_X9, w_319, tyX9_ok, nmX9, rfl, (fun h => by first | rfl | (cases h)), rfl⟩
theorem nX9_70 : bw_nl RX9 70 6 3 [.null, .null, .null] := ⟨RX4, TX4, tyX4, rfl, uX_X4, tyX4_ok, w_234, w_235, w_60, by decide⟩
theorem iX9_72 : bw_ci RX9 72 mX4_init 1 := ⟨⟨w_236, w_60, w_238, ⟨by decide, by decide⟩, by decide +kernel⟩, w_237, rfl, rfl⟩
theorem pX9_73 : bw_fp RX9 73 11 4 (.object "ByteFields$Interpolation") true := ⟨RX9, TX9, 17, tyX9, rfl, by decide, uX_X9, w_320, tyX9_ok, nmX9, rfl, (fun h => by first | rfl | (cases h)), rfl⟩
theorem nX9_77 : bw_nl RX9 77 10 7 [.null, .null, .null, .null, .null, .null, .null] := ⟨RX8, TX8, tyX8, rfl, uX_X8, tyX8_ok, w_250, w_251, w_61, by decide⟩
theorem lX9_66 : bw_fl RX9 66 11 3 := ⟨RX9, TX9, 17, rfl, by decide, uX_X9, w_319⟩
theorem iX9_79 : bw_ci RX9 79 mX8_init 2 := ⟨⟨w_252, w_61, w_254, ⟨by decide, by decide⟩, by decide +kernel⟩, w_253, rfl, rfl⟩
theorem pX9_82 : bw_fp RX9 82 11 5 (.object "ByteFields$Roots") true := ⟨RX9, TX9, 17, tyX9, rfl, by decide, uX_X9, w_321, tyX9_ok, nmX9, rfl, (fun h => by first | rfl | (cases h)), rfl⟩
theorem nX9_86 : bw_nl RX9 86 4 6 [.null, .null, .null, .null, .null, .null] := ⟨RX2, TX2, tyX2, rfl, uX_X2, tyX2_ok, w_289, w_290, w_62, by decide⟩
theorem iX9_88 : bw_ci RX9 88 mX2_init 2 := ⟨⟨w_291, w_62, w_293, ⟨by decide, by decide⟩, by decide +kernel⟩, w_292, rfl, rfl⟩
theorem pX9_89 : bw_fp RX9 89 11 6 (.object "ByteFields$Factors") true := ⟨RX9, TX9, 17, tyX9, rfl, by decide, uX_X9, w_322, tyX9_ok, nmX9, rfl, (fun h => by first | rfl | (cases h)), rfl⟩
theorem lX9_93 : bw_fl RX9 93 5 3 := ⟨RX3, TX3, 6, rfl, by decide, uX_X3, w_162⟩
theorem lX9_97 : bw_fl RX9 97 5 4 := ⟨RX3, TX3, 6, rfl, by decide, uX_X3, w_164⟩
theorem vX9_100 : bw_cv RX9 100 mX9_needMember 1 11 := ⟨⟨w_391, w_53, w_394, ⟨by decide, by decide⟩, by decide +kernel⟩, w_393, w_5, _, rfl, rfl⟩
theorem vX9_103 : bw_cv RX9 103 mX3_mul 2 5 := ⟨⟨w_466, w_55, w_265, ⟨by decide, by decide⟩, by decide +kernel⟩, w_263, w_264, _, rfl, rfl⟩
theorem tX9_107 : bw_tl RX9 107 111 "java/lang/ArithmeticException" ["java/lang/RuntimeException", "java/lang/Exception"] := ⟨by decide +kernel, by decide +kernel, w_493, w_68, bw_tat (by decide +kernel)⟩
theorem vX9_114 : bw_cv RX9 114 mX3_ratio 2 5 := ⟨⟨w_496, w_55, w_499, ⟨by decide, by decide⟩, by decide +kernel⟩, w_497, w_498, _, rfl, rfl⟩
theorem vX9_119 : bw_cv RX9 119 mX3_raised 2 5 := ⟨⟨w_513, w_55, w_516, ⟨by decide, by decide⟩, by decide +kernel⟩, w_514, w_515, _, rfl, rfl⟩
theorem tX9_123 : bw_tl RX9 123 127 "java/lang/ArrayIndexOutOfBoundsException" ["java/lang/IndexOutOfBoundsException", "java/lang/RuntimeException", "java/lang/Exception"] := ⟨by decide +kernel, by decide +kernel, w_547, w_71, bw_tat (by decide +kernel)⟩
theorem iX9_127 : bw_ci RX9 127 mJx00060_init_a7421 1 := ⟨⟨w_549, w_71, w_527, ⟨by decide, by decide⟩, by decide +kernel⟩, w_526, rfl, rfl⟩
theorem vX9_128 : bw_cv RX9 128 mX3_logOf 1 5 := ⟨⟨w_550, w_55, w_520, ⟨by decide, by decide⟩, by decide +kernel⟩, w_518, w_519, _, rfl, rfl⟩
theorem vX9_132 : bw_cv RX9 132 mX3_orderOf 1 5 := ⟨⟨w_558, w_55, w_561, ⟨by decide, by decide⟩, by decide +kernel⟩, w_559, w_560, _, rfl, rfl⟩
theorem lX9_135 : bw_fl RX9 135 11 10 := ⟨RX9, TX9, 17, rfl, by decide, uX_X9, w_326⟩
theorem tX9_138 : bw_tl RX9 138 142 "java/lang/UnsupportedOperationException" ["java/lang/RuntimeException", "java/lang/Exception"] := ⟨by decide +kernel, by decide +kernel, w_570, w_72, bw_tat (by decide +kernel)⟩
theorem lX9_21 : bw_fl RX9 21 11 9 := ⟨RX9, TX9, 17, rfl, by decide, uX_X9, w_325⟩
theorem pX9_135 : bw_fp RX9 135 11 10 (.int) false := ⟨RX9, TX9, 17, tyX9, rfl, by decide, uX_X9, w_326, tyX9_ok, nmX9, rfl, (fun h => by first | rfl | (cases h)), rfl⟩
theorem tX9_143 : bw_tl RX9 143 147 "java/lang/IndexOutOfBoundsException" ["java/lang/RuntimeException", "java/lang/Exception"] := ⟨by decide +kernel, by decide +kernel, w_594, w_70, bw_tat (by decide +kernel)⟩
theorem sX9_148 : bw_cs RX9 148 mX9_needSides 2 := ⟨⟨w_614, w_53, w_616, ⟨by decide, by decide⟩, by decide +kernel⟩, w_615⟩
theorem vX9_151 : bw_cv RX9 151 mX9_needMatrixRoom 0 11 := ⟨⟨w_618, w_53, w_621, ⟨by decide, by decide⟩, by decide +kernel⟩, w_620, w_7, _, rfl, rfl⟩
theorem nX9_25 : bw_nl RX9 25 7 3 [.int 0, .int 0, .null] := ⟨RX5, TX5, tyX5, rfl, uX_X5, tyX5_ok, w_112, w_623, w_73, by decide⟩
theorem iX9_154 : bw_ci RX9 154 mX5_init 2 := ⟨⟨w_624, w_73, w_626, ⟨by decide, by decide⟩, by decide +kernel⟩, w_625, rfl, rfl⟩
theorem vX9_155 : bw_cv RX9 155 mX9_keepMatrix 1 11 := ⟨⟨w_647, w_53, w_650, ⟨by decide, by decide⟩, by decide +kernel⟩, w_649, w_8, _, rfl, rfl⟩
theorem vX9_159 : bw_cv RX9 159 mX9_hasAlike 1 11 := ⟨⟨w_659, w_53, w_662, ⟨by decide, by decide⟩, by decide +kernel⟩, w_661, w_9, _, rfl, rfl⟩
theorem tX9_163 : bw_tl RX9 163 167 "java/lang/IllegalStateException" ["java/lang/RuntimeException", "java/lang/Exception"] := ⟨by decide +kernel, by decide +kernel, w_663, w_74, bw_tat (by decide +kernel)⟩
theorem lX9_168 : bw_fl RX9 168 7 2 := ⟨RX5, TX5, 3, rfl, by decide, uX_X5, w_639⟩
theorem vX9_173 : bw_cv RX9 173 mX3_inverse 1 5 := ⟨⟨w_687, w_55, w_503, ⟨by decide, by decide⟩, by decide +kernel⟩, w_501, w_502, _, rfl, rfl⟩
theorem vX9_176 : bw_cv RX9 176 mX9_matrixAt 1 11 := ⟨⟨w_695, w_53, w_698, ⟨by decide, by decide⟩, by decide +kernel⟩, w_697, w_10, _, rfl, rfl⟩
theorem tX9_180 : bw_tl RX9 180 184 "java/lang/IllegalArgumentException" ["java/lang/RuntimeException", "java/lang/Exception"] := ⟨by decide +kernel, by decide +kernel, w_395, w_67, bw_tat (by decide +kernel)⟩
theorem lX9_185 : bw_fl RX9 185 7 0 := ⟨RX5, TX5, 3, rfl, by decide, uX_X5, w_631⟩
theorem lX9_188 : bw_fl RX9 188 7 1 := ⟨RX5, TX5, 3, rfl, by decide, uX_X5, w_635⟩
theorem sX9_191 : bw_cs RX9 191 mX9_placeIn 3 := ⟨⟨w_708, w_53, w_710, ⟨by decide, by decide⟩, by decide +kernel⟩, w_709⟩
theorem vX9_197 : bw_cv RX9 197 mX3_addMultiple 6 5 := ⟨⟨w_727, w_55, w_730, ⟨by decide, by decide⟩, by decide +kernel⟩, w_728, w_729, _, rfl, rfl⟩
theorem sX9_201 : bw_cs RX9 201 mX9_needSquare 1 := ⟨⟨w_738, w_53, w_740, ⟨by decide, by decide⟩, by decide +kernel⟩, w_739⟩
theorem lX9_52 : bw_fl RX9 52 11 1 := ⟨RX9, TX9, 17, rfl, by decide, uX_X9, w_317⟩
theorem vX9_205 : bw_cv RX9 205 mX1_load 1 3 := ⟨⟨w_742, w_57, w_745, ⟨by decide, by decide⟩, by decide +kernel⟩, w_743, w_744, _, rfl, rfl⟩
theorem vX9_208 : bw_cv RX9 208 mX1_appendIdentity 0 3 := ⟨⟨w_749, w_57, w_752, ⟨by decide, by decide⟩, by decide +kernel⟩, w_750, w_751, _, rfl, rfl⟩
theorem vX9_211 : bw_cv RX9 211 mX1_reduce 1 3 := ⟨⟨w_753, w_57, w_756, ⟨by decide, by decide⟩, by decide +kernel⟩, w_754, w_755, _, rfl, rfl⟩
theorem vX9_214 : bw_cv RX9 214 mX1_copyAppended 1 3 := ⟨⟨w_776, w_57, w_779, ⟨by decide, by decide⟩, by decide +kernel⟩, w_777, w_778, _, rfl, rfl⟩
theorem lX9_217 : bw_fl RX9 217 3 6 := ⟨RX1, TX1, 7, rfl, by decide, uX_X1, w_194⟩
theorem lX9_59 : bw_fl RX9 59 11 2 := ⟨RX9, TX9, 17, rfl, by decide, uX_X9, w_318⟩
theorem vX9_220 : bw_cv RX9 220 mX6_countZeros 1 8 := ⟨⟨w_801, w_58, w_804, ⟨by decide, by decide⟩, by decide +kernel⟩, w_802, w_803, _, rfl, rfl⟩
theorem vX9_225 : bw_cv RX9 225 mX1_appendColumn 1 3 := ⟨⟨w_831, w_57, w_834, ⟨by decide, by decide⟩, by decide +kernel⟩, w_832, w_833, _, rfl, rfl⟩
theorem vX9_229 : bw_cv RX9 229 mX1_leavesOver 1 3 := ⟨⟨w_835, w_57, w_838, ⟨by decide, by decide⟩, by decide +kernel⟩, w_836, w_837, _, rfl, rfl⟩
theorem vX9_232 : bw_cv RX9 232 mX1_solution 2 3 := ⟨⟨w_839, w_57, w_842, ⟨by decide, by decide⟩, by decide +kernel⟩, w_840, w_841, _, rfl, rfl⟩
theorem vX9_237 : bw_cv RX9 237 mX9_needPolynomialRoom 0 11 := ⟨⟨w_851, w_53, w_854, ⟨by decide, by decide⟩, by decide +kernel⟩, w_853, w_16, _, rfl, rfl⟩
theorem lX9_14 : bw_fl RX9 14 11 7 := ⟨RX9, TX9, 17, rfl, by decide, uX_X9, w_323⟩
theorem vX9_240 : bw_cv RX9 240 mX7_load 2 9 := ⟨⟨w_856, w_54, w_859, ⟨by decide, by decide⟩, by decide +kernel⟩, w_857, w_858, _, rfl, rfl⟩
theorem vX9_243 : bw_cv RX9 243 mX9_keepPolynomial 1 11 := ⟨⟨w_869, w_53, w_872, ⟨by decide, by decide⟩, by decide +kernel⟩, w_871, w_17, _, rfl, rfl⟩
theorem lX9_73 : bw_fl RX9 73 11 4 := ⟨RX9, TX9, 17, rfl, by decide, uX_X9, w_320⟩
theorem vX9_249 : bw_cv RX9 249 mX4_take 3 6 := ⟨⟨w_886, w_60, w_889, ⟨by decide, by decide⟩, by decide +kernel⟩, w_887, w_888, _, rfl, rfl⟩
theorem vX9_253 : bw_cv RX9 253 mX4_run 2 6 := ⟨⟨w_890, w_60, w_893, ⟨by decide, by decide⟩, by decide +kernel⟩, w_891, w_892, _, rfl, rfl⟩
theorem vX9_257 : bw_cv RX9 257 mX9_polynomialAt 1 11 := ⟨⟨w_909, w_53, w_912, ⟨by decide, by decide⟩, by decide +kernel⟩, w_911, w_19, _, rfl, rfl⟩
theorem lX9_261 : bw_fl RX9 261 9 1 := ⟨RX7, TX7, 3, rfl, by decide, uX_X7, w_101⟩
theorem lX9_266 : bw_fl RX9 266 9 0 := ⟨RX7, TX7, 3, rfl, by decide, uX_X7, w_95⟩
theorem vX9_269 : bw_cv RX9 269 mX9_valueOf 2 11 := ⟨⟨w_929, w_53, w_932, ⟨by decide, by decide⟩, by decide +kernel⟩, w_931, w_20, _, rfl, rfl⟩
theorem vX9_273 : bw_cv RX9 273 mX7_copyFrom 1 9 := ⟨⟨w_873, w_54, w_876, ⟨by decide, by decide⟩, by decide +kernel⟩, w_874, w_875, _, rfl, rfl⟩
theorem vX9_277 : bw_cv RX9 277 mX7_addScaled 3 9 := ⟨⟨w_940, w_54, w_943, ⟨by decide, by decide⟩, by decide +kernel⟩, w_941, w_942, _, rfl, rfl⟩
theorem vX9_281 : bw_cv RX9 281 mX7_clear 0 9 := ⟨⟨w_955, w_54, w_863, ⟨by decide, by decide⟩, by decide +kernel⟩, w_861, w_862, _, rfl, rfl⟩
theorem vX9_284 : bw_cv RX9 284 mX7_settle 1 9 := ⟨⟨w_956, w_54, w_868, ⟨by decide, by decide⟩, by decide +kernel⟩, w_866, w_867, _, rfl, rfl⟩
theorem vX9_289 : bw_cv RX9 289 mX0_toRest 2 2 := ⟨⟨w_965, w_59, w_968, ⟨by decide, by decide⟩, by decide +kernel⟩, w_966, w_967, _, rfl, rfl⟩
theorem vX9_293 : bw_cv RX9 293 mX0_toQuotient 2 2 := ⟨⟨w_977, w_59, w_980, ⟨by decide, by decide⟩, by decide +kernel⟩, w_978, w_979, _, rfl, rfl⟩
theorem lX9_18 : bw_fl RX9 18 11 8 := ⟨RX9, TX9, 17, rfl, by decide, uX_X9, w_324⟩
theorem vX9_296 : bw_cv RX9 296 mX0_toGreatestDivisor 2 2 := ⟨⟨w_993, w_59, w_996, ⟨by decide, by decide⟩, by decide +kernel⟩, w_994, w_995, _, rfl, rfl⟩
theorem lX9_301 : bw_fl RX9 301 5 1 := ⟨RX3, TX3, 6, rfl, by decide, uX_X3, w_159⟩
theorem lX9_82 : bw_fl RX9 82 11 5 := ⟨RX9, TX9, 17, rfl, by decide, uX_X9, w_321⟩
theorem vX9_304 : bw_cv RX9 304 mX8_find 2 10 := ⟨⟨w_1008, w_61, w_1011, ⟨by decide, by decide⟩, by decide +kernel⟩, w_1009, w_1010, _, rfl, rfl⟩
theorem vX9_307 : bw_cv RX9 307 mX0_takeOut 2 2 := ⟨⟨w_1045, w_59, w_1048, ⟨by decide, by decide⟩, by decide +kernel⟩, w_1046, w_1047, _, rfl, rfl⟩
theorem lX9_313 : bw_fl RX9 313 9 2 := ⟨RX7, TX7, 3, rfl, by decide, uX_X7, w_103⟩
theorem lX9_89 : bw_fl RX9 89 11 6 := ⟨RX9, TX9, 17, rfl, by decide, uX_X9, w_322⟩
theorem vX9_316 : bw_cv RX9 316 mX2_count 2 4 := ⟨⟨w_1057, w_62, w_1060, ⟨by decide, by decide⟩, by decide +kernel⟩, w_1058, w_1059, _, rfl, rfl⟩
theorem pX9_313 : bw_fp RX9 313 9 2 (.array .int) false := ⟨RX7, TX7, 3, tyX7, rfl, by decide, uX_X7, w_103, tyX7_ok, nmX7, rfl, (fun h => by first | rfl | (cases h)), rfl⟩
theorem vX9_320 : bw_cv RX9 320 mX9_hasXorOfAhead 0 11 := ⟨⟨w_1079, w_53, w_1082, ⟨by decide, by decide⟩, by decide +kernel⟩, w_1081, w_25, _, rfl, rfl⟩
theorem pX9_326 : bw_fp RX9 326 11 16 (.int) false := ⟨RX9, TX9, 17, tyX9, rfl, by decide, uX_X9, w_332, tyX9_ok, nmX9, rfl, (fun h => by first | rfl | (cases h)), rfl⟩
theorem lX9_326 : bw_fl RX9 326 11 16 := ⟨RX9, TX9, 17, rfl, by decide, uX_X9, w_332⟩
theorem lX9_35 : bw_fl RX9 35 11 15 := ⟨RX9, TX9, 17, rfl, by decide, uX_X9, w_331⟩
theorem vX9_329 : bw_cv RX9 329 mX9_xorOfChosen 2 11 := ⟨⟨w_1083, w_53, w_1086, ⟨by decide, by decide⟩, by decide +kernel⟩, w_1085, w_26, _, rfl, rfl⟩
theorem vX9_332 : bw_cv RX9 332 mX9_needSpan 0 11 := ⟨⟨w_1095, w_53, w_1098, ⟨by decide, by decide⟩, by decide +kernel⟩, w_1097, w_27, _, rfl, rfl⟩
theorem lX9_337 : bw_fl RX9 337 11 12 := ⟨RX9, TX9, 17, rfl, by decide, uX_X9, w_328⟩
theorem lX9_340 : bw_fl RX9 340 11 14 := ⟨RX9, TX9, 17, rfl, by decide, uX_X9, w_330⟩
theorem lX9_27 : bw_fl RX9 27 11 11 := ⟨RX9, TX9, 17, rfl, by decide, uX_X9, w_327⟩
theorem lX9_31 : bw_fl RX9 31 11 13 := ⟨RX9, TX9, 17, rfl, by decide, uX_X9, w_329⟩
theorem pX9_337 : bw_fp RX9 337 11 12 (.int) false := ⟨RX9, TX9, 17, tyX9, rfl, by decide, uX_X9, w_328, tyX9_ok, nmX9, rfl, (fun h => by first | rfl | (cases h)), rfl⟩
theorem pX9_340 : bw_fp RX9 340 11 14 (.int) false := ⟨RX9, TX9, 17, tyX9, rfl, by decide, uX_X9, w_330, tyX9_ok, nmX9, rfl, (fun h => by first | rfl | (cases h)), rfl⟩
theorem lX10_1 : bw_fl RX10 1 12 4 := ⟨RX10, TX10, 30, rfl, by decide, uX_X10, w_1160⟩
theorem pX10_1 : bw_fp RX10 1 12 4 (.int) false := ⟨RX10, TX10, 30, tyX10, rfl, by decide, uX_X10, w_1160, tyX10_ok, nmX10, rfl, (fun h => by first | rfl | (cases h)), rfl⟩
theorem pX10_13 : bw_fp RX10 13 12 6 (.array .int) true := ⟨RX10, TX10, 30, tyX10, rfl, by decide, uX_X10, w_1162, tyX10_ok, nmX10, rfl, (fun h => by first | rfl | (cases h)), rfl⟩
theorem pX10_17 : bw_fp RX10 17 12 8 (.array .int) true := ⟨RX10, TX10, 30, tyX10, rfl, by decide, uX_X10, w_1164, tyX10_ok, nmX10, rfl, (fun h => by first | rfl | (cases h)), rfl⟩
theorem pX10_20 : bw_fp RX10 20 12 9 (.array .int) true := ⟨RX10, TX10, 30, tyX10, rfl, by decide, uX_X10, w_1165, tyX10_ok, nmX10, rfl, (fun h => by first | rfl | (cases h)), rfl⟩
theorem pX10_23 : bw_fp RX10 23 12 10 (.array .int) true := ⟨RX10, TX10, 30, tyX10, rfl, by decide, uX_X10, w_1166, tyX10_ok, nmX10, rfl, (fun h => by first | rfl | (cases h)), rfl⟩
theorem kX10_26 : Cond.constant RX10 26 (65536) ∈ bw_uw := w_1126
theorem pX10_27 : bw_fp RX10 27 12 11 (.array .int) true := ⟨RX10, TX10, 30, tyX10, rfl, by decide, uX_X10, w_1167, tyX10_ok, nmX10, rfl, (fun h => by first | rfl | (cases h)), rfl⟩
theorem pX10_30 : bw_fp RX10 30 12 12 (.array .int) true := ⟨RX10, TX10, 30, tyX10, rfl, by decide, uX_X10, w_1168, tyX10_ok, nmX10, rfl, (fun h => by first | rfl | (cases h)), rfl⟩
theorem pX10_33 : bw_fp RX10 33 12 13 (.array .int) true := ⟨RX10, TX10, 30, tyX10, rfl, by decide, uX_X10, w_1169, tyX10_ok, nmX10, rfl, (fun h => by first | rfl | (cases h)), rfl⟩
theorem pX10_36 : bw_fp RX10 36 12 15 (.array .int) true := ⟨RX10, TX10, 30, tyX10, rfl, by decide, uX_X10, w_1171, tyX10_ok, nmX10, rfl, (fun h => by first | rfl | (cases h)), rfl⟩
theorem pX10_39 : bw_fp RX10 39 12 16 (.array .int) true := ⟨RX10, TX10, 30, tyX10, rfl, by decide, uX_X10, w_1172, tyX10_ok, nmX10, rfl, (fun h => by first | rfl | (cases h)), rfl⟩
theorem pX10_42 : bw_fp RX10 42 12 17 (.array .int) true := ⟨RX10, TX10, 30, tyX10, rfl, by decide, uX_X10, w_1173, tyX10_ok, nmX10, rfl, (fun h => by first | rfl | (cases h)), rfl⟩
theorem pX10_45 : bw_fp RX10 45 12 18 (.array .int) true := ⟨RX10, TX10, 30, tyX10, rfl, by decide, uX_X10, w_1174, tyX10_ok, nmX10, rfl, (fun h => by first | rfl | (cases h)), rfl⟩
theorem pX10_48 : bw_fp RX10 48 12 19 (.array .int) true := ⟨RX10, TX10, 30, tyX10, rfl, by decide, uX_X10, w_1175, tyX10_ok, nmX10, rfl, (fun h => by first | rfl | (cases h)), rfl⟩
theorem pX10_51 : bw_fp RX10 51 12 20 (.array .int) true := ⟨RX10, TX10, 30, tyX10, rfl, by decide, uX_X10, w_1176, tyX10_ok, nmX10, rfl, (fun h => by first | rfl | (cases h)), rfl⟩
theorem pX10_54 : bw_fp RX10 54 12 21 (.int) false := ⟨RX10, TX10, 30, tyX10, rfl, by decide, uX_X10, w_1177, tyX10_ok, nmX10, rfl, (fun h => by first | rfl | (cases h)), rfl⟩
theorem pX10_57 : bw_fp RX10 57 12 23 (.array .int) true := ⟨RX10, TX10, 30, tyX10, rfl, by decide, uX_X10, w_1179, tyX10_ok, nmX10, rfl, (fun h => by first | rfl | (cases h)), rfl⟩
theorem pX10_60 : bw_fp RX10 60 12 24 (.int) false := ⟨RX10, TX10, 30, tyX10, rfl, by decide, uX_X10, w_1180, tyX10_ok, nmX10, rfl, (fun h => by first | rfl | (cases h)), rfl⟩
theorem pX10_63 : bw_fp RX10 63 12 25 (.array .int) true := ⟨RX10, TX10, 30, tyX10, rfl, by decide, uX_X10, w_1181, tyX10_ok, nmX10, rfl, (fun h => by first | rfl | (cases h)), rfl⟩
theorem pX10_66 : bw_fp RX10 66 12 26 (.array .int) true := ⟨RX10, TX10, 30, tyX10, rfl, by decide, uX_X10, w_1182, tyX10_ok, nmX10, rfl, (fun h => by first | rfl | (cases h)), rfl⟩
theorem pX10_69 : bw_fp RX10 69 12 27 (.array .int) true := ⟨RX10, TX10, 30, tyX10, rfl, by decide, uX_X10, w_1183, tyX10_ok, nmX10, rfl, (fun h => by first | rfl | (cases h)), rfl⟩
theorem pX10_72 : bw_fp RX10 72 12 29 (.array .int) true := ⟨RX10, TX10, 30, tyX10, rfl, by decide, uX_X10, w_1185, tyX10_ok, nmX10, rfl, (fun h => by first | rfl | (cases h)), rfl⟩
theorem pX10_75 : bw_fp RX10 75 12 0 (.int) false := ⟨RX10, TX10, 30, tyX10, rfl, by decide, uX_X10, w_1156, tyX10_ok, nmX10, rfl, (fun h => by first | rfl | (cases h)), rfl⟩
theorem lX10_75 : bw_fl RX10 75 12 0 := ⟨RX10, TX10, 30, rfl, by decide, uX_X10, w_1156⟩
theorem pX10_78 : bw_fp RX10 78 12 2 (.int) false := ⟨RX10, TX10, 30, tyX10, rfl, by decide, uX_X10, w_1158, tyX10_ok, nmX10, rfl, (fun h => by first | rfl | (cases h)), rfl⟩
theorem lX10_78 : bw_fl RX10 78 12 2 := ⟨RX10, TX10, 30, rfl, by decide, uX_X10, w_1158⟩
theorem pX10_81 : bw_fp RX10 81 12 1 (.int) false := ⟨RX10, TX10, 30, tyX10, rfl, by decide, uX_X10, w_1157, tyX10_ok, nmX10, rfl, (fun h => by first | rfl | (cases h)), rfl⟩
theorem lX10_81 : bw_fl RX10 81 12 1 := ⟨RX10, TX10, 30, rfl, by decide, uX_X10, w_1157⟩
theorem vX10_84 : bw_cv RX10 84 mX10_isPrime 1 12 := ⟨⟨w_1127, w_63, w_1130, ⟨by decide, by decide⟩, by decide +kernel⟩, w_1129, w_28, _, rfl, rfl⟩
theorem pX10_88 : bw_fp RX10 88 12 3 (.int) false := ⟨RX10, TX10, 30, tyX10, rfl, by decide, uX_X10, w_1159, tyX10_ok, nmX10, rfl, (fun h => by first | rfl | (cases h)), rfl⟩
theorem lX10_88 : bw_fl RX10 88 12 3 := ⟨RX10, TX10, 30, rfl, by decide, uX_X10, w_1159⟩
theorem vX10_91 : bw_cv RX10 91 mX10_orderOf 1 12 := ⟨⟨w_1137, w_63, w_1140, ⟨by decide, by decide⟩, by decide +kernel⟩, w_1139, w_29, _, rfl, rfl⟩
theorem sX10_95 : bw_cs RX10 95 mX10_restOf 2 := ⟨⟨w_1131, w_63, w_1133, ⟨by decide, by decide⟩, by decide +kernel⟩, w_1132⟩
theorem sX10_99 : bw_cs RX10 99 mX10_degreeOf 1 := ⟨⟨w_1134, w_63, w_1136, ⟨by decide, by decide⟩, by decide +kernel⟩, w_1135⟩
theorem vX10_102 : bw_cv RX10 102 mX10_mul 2 12 := ⟨⟨w_1152, w_63, w_1155, ⟨by decide, by decide⟩, by decide +kernel⟩, w_1154, w_32, _, rfl, rfl⟩
theorem vX10_105 : bw_cv RX10 105 mX10_raised 2 12 := ⟨⟨w_1148, w_63, w_1151, ⟨by decide, by decide⟩, by decide +kernel⟩, w_1150, w_31, _, rfl, rfl⟩
theorem vX10_108 : bw_cv RX10 108 mX10_factors 0 12 := ⟨⟨w_1141, w_63, w_1144, ⟨by decide, by decide⟩, by decide +kernel⟩, w_1143, w_30, _, rfl, rfl⟩
theorem sX10_112 : bw_cs RX10 112 mX10_factor 1 := ⟨⟨w_1145, w_63, w_1147, ⟨by decide, by decide⟩, by decide +kernel⟩, w_1146⟩
theorem vX10_115 : bw_cv RX10 115 mX10_isMember 1 12 := ⟨⟨w_1259, w_63, w_1262, ⟨by decide, by decide⟩, by decide +kernel⟩, w_1261, w_33, _, rfl, rfl⟩
theorem vX10_118 : bw_cv RX10 118 mX10_fail 1 12 := ⟨⟨w_1263, w_63, w_1266, ⟨by decide, by decide⟩, by decide +kernel⟩, w_1265, w_34, _, rfl, rfl⟩
theorem vX10_121 : bw_cv RX10 121 mX10_inverse 1 12 := ⟨⟨w_1271, w_63, w_1274, ⟨by decide, by decide⟩, by decide +kernel⟩, w_1273, w_35, _, rfl, rfl⟩
theorem lX10_124 : bw_fl RX10 124 12 5 := ⟨RX10, TX10, 30, rfl, by decide, uX_X10, w_1161⟩
theorem lX10_13 : bw_fl RX10 13 12 6 := ⟨RX10, TX10, 30, rfl, by decide, uX_X10, w_1162⟩
theorem pX10_124 : bw_fp RX10 124 12 5 (.int) false := ⟨RX10, TX10, 30, tyX10, rfl, by decide, uX_X10, w_1161, tyX10_ok, nmX10, rfl, (fun h => by first | rfl | (cases h)), rfl⟩
theorem lX10_127 : bw_fl RX10 127 12 7 := ⟨RX10, TX10, 30, rfl, by decide, uX_X10, w_1163⟩
theorem lX10_17 : bw_fl RX10 17 12 8 := ⟨RX10, TX10, 30, rfl, by decide, uX_X10, w_1164⟩
theorem lX10_20 : bw_fl RX10 20 12 9 := ⟨RX10, TX10, 30, rfl, by decide, uX_X10, w_1165⟩
theorem lX10_23 : bw_fl RX10 23 12 10 := ⟨RX10, TX10, 30, rfl, by decide, uX_X10, w_1166⟩
theorem pX10_127 : bw_fp RX10 127 12 7 (.int) false := ⟨RX10, TX10, 30, tyX10, rfl, by decide, uX_X10, w_1163, tyX10_ok, nmX10, rfl, (fun h => by first | rfl | (cases h)), rfl⟩
theorem sX10_130 : bw_cs RX10 130 mX10_isSize 1 := ⟨⟨w_1303, w_63, w_1305, ⟨by decide, by decide⟩, by decide +kernel⟩, w_1304⟩
theorem vX10_133 : bw_cv RX10 133 mX10_made 2 12 := ⟨⟨w_1306, w_63, w_1309, ⟨by decide, by decide⟩, by decide +kernel⟩, w_1308, w_36, _, rfl, rfl⟩
theorem vX10_136 : bw_cv RX10 136 mX10_hasAlike 2 12 := ⟨⟨w_1314, w_63, w_1317, ⟨by decide, by decide⟩, by decide +kernel⟩, w_1316, w_37, _, rfl, rfl⟩
theorem vX10_140 : bw_cv RX10 140 mX10_at 3 12 := ⟨⟨w_1318, w_63, w_1321, ⟨by decide, by decide⟩, by decide +kernel⟩, w_1320, w_38, _, rfl, rfl⟩
theorem vX10_144 : bw_cv RX10 144 mX10_isMatrix 1 12 := ⟨⟨w_1330, w_63, w_1333, ⟨by decide, by decide⟩, by decide +kernel⟩, w_1332, w_39, _, rfl, rfl⟩
theorem vX10_147 : bw_cv RX10 147 mX10_isCell 3 12 := ⟨⟨w_1338, w_63, w_1341, ⟨by decide, by decide⟩, by decide +kernel⟩, w_1340, w_40, _, rfl, rfl⟩
theorem sX10_151 : bw_cs RX10 151 mX10_bitsOf 1 := ⟨⟨w_1358, w_63, w_1360, ⟨by decide, by decide⟩, by decide +kernel⟩, w_1359⟩
theorem lX10_27 : bw_fl RX10 27 12 11 := ⟨RX10, TX10, 30, rfl, by decide, uX_X10, w_1167⟩
theorem vX10_154 : bw_cv RX10 154 mX10_minors 1 12 := ⟨⟨w_1354, w_63, w_1357, ⟨by decide, by decide⟩, by decide +kernel⟩, w_1356, w_41, _, rfl, rfl⟩
theorem lX10_30 : bw_fl RX10 30 12 12 := ⟨RX10, TX10, 30, rfl, by decide, uX_X10, w_1168⟩
theorem lX10_33 : bw_fl RX10 33 12 13 := ⟨RX10, TX10, 30, rfl, by decide, uX_X10, w_1169⟩
theorem lX10_158 : bw_fl RX10 158 12 14 := ⟨RX10, TX10, 30, rfl, by decide, uX_X10, w_1170⟩
theorem sX10_161 : bw_cs RX10 161 mX10_nothing 1 := ⟨⟨w_1381, w_63, w_1383, ⟨by decide, by decide⟩, by decide +kernel⟩, w_1382⟩
theorem lX10_39 : bw_fl RX10 39 12 16 := ⟨RX10, TX10, 30, rfl, by decide, uX_X10, w_1172⟩
theorem lX10_36 : bw_fl RX10 36 12 15 := ⟨RX10, TX10, 30, rfl, by decide, uX_X10, w_1171⟩
theorem sX10_165 : bw_cs RX10 165 mX10_high 1 := ⟨⟨w_1384, w_63, w_1386, ⟨by decide, by decide⟩, by decide +kernel⟩, w_1385⟩
theorem pX10_158 : bw_fp RX10 158 12 14 (.int) false := ⟨RX10, TX10, 30, tyX10, rfl, by decide, uX_X10, w_1170, tyX10_ok, nmX10, rfl, (fun h => by first | rfl | (cases h)), rfl⟩
theorem lX10_42 : bw_fl RX10 42 12 17 := ⟨RX10, TX10, 30, rfl, by decide, uX_X10, w_1173⟩
theorem vX10_169 : bw_cv RX10 169 mX10_kept 1 12 := ⟨⟨w_1387, w_63, w_1390, ⟨by decide, by decide⟩, by decide +kernel⟩, w_1389, w_42, _, rfl, rfl⟩
theorem vX10_172 : bw_cv RX10 172 mX10_at_ 2 12 := ⟨⟨w_1403, w_63, w_1406, ⟨by decide, by decide⟩, by decide +kernel⟩, w_1405, w_45, _, rfl, rfl⟩
theorem lX10_45 : bw_fl RX10 45 12 18 := ⟨RX10, TX10, 30, rfl, by decide, uX_X10, w_1174⟩
theorem vX10_175 : bw_cv RX10 175 mX10_begin 0 12 := ⟨⟨w_1395, w_63, w_1398, ⟨by decide, by decide⟩, by decide +kernel⟩, w_1397, w_43, _, rfl, rfl⟩
theorem vX10_178 : bw_cv RX10 178 mX10_point 2 12 := ⟨⟨w_1399, w_63, w_1402, ⟨by decide, by decide⟩, by decide +kernel⟩, w_1401, w_44, _, rfl, rfl⟩
theorem vX10_182 : bw_cv RX10 182 mX10_isPolynomial 1 12 := ⟨⟨w_1411, w_63, w_1414, ⟨by decide, by decide⟩, by decide +kernel⟩, w_1413, w_46, _, rfl, rfl⟩
theorem vX10_185 : bw_cv RX10 185 mX10_load 2 12 := ⟨⟨w_1423, w_63, w_1426, ⟨by decide, by decide⟩, by decide +kernel⟩, w_1425, w_47, _, rfl, rfl⟩
theorem lX10_48 : bw_fl RX10 48 12 19 := ⟨RX10, TX10, 30, rfl, by decide, uX_X10, w_1175⟩
theorem vX10_189 : bw_cv RX10 189 mX10_split 2 12 := ⟨⟨w_1439, w_63, w_1442, ⟨by decide, by decide⟩, by decide +kernel⟩, w_1441, w_48, _, rfl, rfl⟩
theorem lX10_51 : bw_fl RX10 51 12 20 := ⟨RX10, TX10, 30, rfl, by decide, uX_X10, w_1176⟩
theorem sX10_193 : bw_cs RX10 193 mX10_copy 2 := ⟨⟨w_1451, w_63, w_1453, ⟨by decide, by decide⟩, by decide +kernel⟩, w_1452⟩
theorem vX10_196 : bw_cv RX10 196 mX10_divisor 2 12 := ⟨⟨w_1447, w_63, w_1450, ⟨by decide, by decide⟩, by decide +kernel⟩, w_1449, w_49, _, rfl, rfl⟩
theorem lX10_54 : bw_fl RX10 54 12 21 := ⟨RX10, TX10, 30, rfl, by decide, uX_X10, w_1177⟩
theorem pX10_199 : bw_fp RX10 199 12 22 (.int) false := ⟨RX10, TX10, 30, tyX10, rfl, by decide, uX_X10, w_1178, tyX10_ok, nmX10, rfl, (fun h => by first | rfl | (cases h)), rfl⟩
theorem lX10_199 : bw_fl RX10 199 12 22 := ⟨RX10, TX10, 30, rfl, by decide, uX_X10, w_1178⟩
theorem lX10_57 : bw_fl RX10 57 12 23 := ⟨RX10, TX10, 30, rfl, by decide, uX_X10, w_1179⟩
theorem lX10_66 : bw_fl RX10 66 12 26 := ⟨RX10, TX10, 30, rfl, by decide, uX_X10, w_1182⟩
theorem lX10_63 : bw_fl RX10 63 12 25 := ⟨RX10, TX10, 30, rfl, by decide, uX_X10, w_1181⟩
theorem lX10_69 : bw_fl RX10 69 12 27 := ⟨RX10, TX10, 30, rfl, by decide, uX_X10, w_1183⟩
theorem vX10_202 : bw_cv RX10 202 mX10_square 1 12 := ⟨⟨w_1470, w_63, w_1473, ⟨by decide, by decide⟩, by decide +kernel⟩, w_1472, w_51, _, rfl, rfl⟩
theorem lX10_60 : bw_fl RX10 60 12 24 := ⟨RX10, TX10, 30, rfl, by decide, uX_X10, w_1180⟩
theorem vX10_205 : bw_cv RX10 205 mX10_lookAtParts 1 12 := ⟨⟨w_1466, w_63, w_1469, ⟨by decide, by decide⟩, by decide +kernel⟩, w_1468, w_50, _, rfl, rfl⟩
theorem lX10_72 : bw_fl RX10 72 12 29 := ⟨RX10, TX10, 30, rfl, by decide, uX_X10, w_1185⟩
theorem pX10_208 : bw_fp RX10 208 12 28 (.int) false := ⟨RX10, TX10, 30, tyX10, rfl, by decide, uX_X10, w_1184, tyX10_ok, nmX10, rfl, (fun h => by first | rfl | (cases h)), rfl⟩
theorem lX10_208 : bw_fl RX10 208 12 28 := ⟨RX10, TX10, 30, rfl, by decide, uX_X10, w_1184⟩
theorem kJ6_264 : Cond.constant RJ6 264 (65536) ∈ bw_uw := w_136
theorem kJ6_265 : Cond.constant RJ6 265 (1431655765) ∈ bw_uw := w_808
theorem kJ6_266 : Cond.constant RJ6 266 (858993459) ∈ bw_uw := w_809
theorem kJ6_267 : Cond.constant RJ6 267 (252645135) ∈ bw_uw := w_810
theorem vL_7 : bw_cv RL 7 mX9_product 2 11 := ⟨⟨w_387, w_53, w_390, ⟨by decide, by decide⟩, by decide +kernel⟩, w_388, w_389, _, rfl, rfl⟩
theorem vL_15 : bw_cv RL 15 mX9_quotient 2 11 := ⟨⟨w_489, w_53, w_492, ⟨by decide, by decide⟩, by decide +kernel⟩, w_490, w_491, _, rfl, rfl⟩
theorem vL_20 : bw_cv RL 20 mX9_power 2 11 := ⟨⟨w_508, w_53, w_511, ⟨by decide, by decide⟩, by decide +kernel⟩, w_509, w_510, _, rfl, rfl⟩
theorem vL_24 : bw_cv RL 24 mX9_log 1 11 := ⟨⟨w_543, w_53, w_546, ⟨by decide, by decide⟩, by decide +kernel⟩, w_544, w_545, _, rfl, rfl⟩
theorem vL_30 : bw_cv RL 30 mX9_order 1 11 := ⟨⟨w_554, w_53, w_557, ⟨by decide, by decide⟩, by decide +kernel⟩, w_555, w_556, _, rfl, rfl⟩
theorem vL_33 : bw_cv RL 33 mX9_put 1 11 := ⟨⟨w_566, w_53, w_569, ⟨by decide, by decide⟩, by decide +kernel⟩, w_567, w_568, _, rfl, rfl⟩
theorem vL_38 : bw_cv RL 38 mX9_row 1 11 := ⟨⟨w_590, w_53, w_593, ⟨by decide, by decide⟩, by decide +kernel⟩, w_591, w_592, _, rfl, rfl⟩
theorem vL_43 : bw_cv RL 43 mX9_matrix 2 11 := ⟨⟨w_610, w_53, w_613, ⟨by decide, by decide⟩, by decide +kernel⟩, w_611, w_612, _, rfl, rfl⟩
theorem vL_46 : bw_cv RL 46 mX9_powers 2 11 := ⟨⟨w_655, w_53, w_658, ⟨by decide, by decide⟩, by decide +kernel⟩, w_656, w_657, _, rfl, rfl⟩
theorem vL_51 : bw_cv RL 51 mX9_sums 2 11 := ⟨⟨w_682, w_53, w_685, ⟨by decide, by decide⟩, by decide +kernel⟩, w_683, w_684, _, rfl, rfl⟩
theorem vL_54 : bw_cv RL 54 mX9_size 2 11 := ⟨⟨w_691, w_53, w_694, ⟨by decide, by decide⟩, by decide +kernel⟩, w_692, w_693, _, rfl, rfl⟩
theorem vL_57 : bw_cv RL 57 mX9_cell 3 11 := ⟨⟨w_704, w_53, w_707, ⟨by decide, by decide⟩, by decide +kernel⟩, w_705, w_706, _, rfl, rfl⟩
theorem vL_61 : bw_cv RL 61 mX9_set 4 11 := ⟨⟨w_715, w_53, w_718, ⟨by decide, by decide⟩, by decide +kernel⟩, w_716, w_717, _, rfl, rfl⟩
theorem vL_65 : bw_cv RL 65 mX9_times 2 11 := ⟨⟨w_722, w_53, w_725, ⟨by decide, by decide⟩, by decide +kernel⟩, w_723, w_724, _, rfl, rfl⟩
theorem vL_68 : bw_cv RL 68 mX9_invert 1 11 := ⟨⟨w_734, w_53, w_737, ⟨by decide, by decide⟩, by decide +kernel⟩, w_735, w_736, _, rfl, rfl⟩
theorem vL_71 : bw_cv RL 71 mX9_rank 1 11 := ⟨⟨w_783, w_53, w_786, ⟨by decide, by decide⟩, by decide +kernel⟩, w_784, w_785, _, rfl, rfl⟩
theorem vL_74 : bw_cv RL 74 mX9_determinant 1 11 := ⟨⟨w_790, w_53, w_793, ⟨by decide, by decide⟩, by decide +kernel⟩, w_791, w_792, _, rfl, rfl⟩
theorem vL_77 : bw_cv RL 77 mX9_singular 1 11 := ⟨⟨w_797, w_53, w_800, ⟨by decide, by decide⟩, by decide +kernel⟩, w_798, w_799, _, rfl, rfl⟩
theorem vL_80 : bw_cv RL 80 mX9_solve 1 11 := ⟨⟨w_826, w_53, w_829, ⟨by decide, by decide⟩, by decide +kernel⟩, w_827, w_828, _, rfl, rfl⟩
theorem vL_83 : bw_cv RL 83 mX9_polynomial 0 11 := ⟨⟨w_846, w_53, w_849, ⟨by decide, by decide⟩, by decide +kernel⟩, w_847, w_848, _, rfl, rfl⟩
theorem vL_87 : bw_cv RL 87 mX9_through 0 11 := ⟨⟨w_881, w_53, w_884, ⟨by decide, by decide⟩, by decide +kernel⟩, w_882, w_883, _, rfl, rfl⟩
theorem vL_90 : bw_cv RL 90 mX9_degree 1 11 := ⟨⟨w_905, w_53, w_908, ⟨by decide, by decide⟩, by decide +kernel⟩, w_906, w_907, _, rfl, rfl⟩
theorem vL_93 : bw_cv RL 93 mX9_coefficient 2 11 := ⟨⟨w_917, w_53, w_920, ⟨by decide, by decide⟩, by decide +kernel⟩, w_918, w_919, _, rfl, rfl⟩
theorem vL_96 : bw_cv RL 96 mX9_value 2 11 := ⟨⟨w_925, w_53, w_928, ⟨by decide, by decide⟩, by decide +kernel⟩, w_926, w_927, _, rfl, rfl⟩
theorem vL_99 : bw_cv RL 99 mX9_plus 2 11 := ⟨⟨w_936, w_53, w_939, ⟨by decide, by decide⟩, by decide +kernel⟩, w_937, w_938, _, rfl, rfl⟩
theorem vL_102 : bw_cv RL 102 mX9_multiply 2 11 := ⟨⟨w_951, w_53, w_954, ⟨by decide, by decide⟩, by decide +kernel⟩, w_952, w_953, _, rfl, rfl⟩
theorem vL_105 : bw_cv RL 105 mX9_divide 3 11 := ⟨⟨w_960, w_53, w_963, ⟨by decide, by decide⟩, by decide +kernel⟩, w_961, w_962, _, rfl, rfl⟩
theorem vL_109 : bw_cv RL 109 mX9_common 2 11 := ⟨⟨w_989, w_53, w_992, ⟨by decide, by decide⟩, by decide +kernel⟩, w_990, w_991, _, rfl, rfl⟩
theorem vL_112 : bw_cv RL 112 mX9_root 2 11 := ⟨⟨w_1003, w_53, w_1006, ⟨by decide, by decide⟩, by decide +kernel⟩, w_1004, w_1005, _, rfl, rfl⟩
theorem vL_115 : bw_cv RL 115 mX9_often 2 11 := ⟨⟨w_1041, w_53, w_1044, ⟨by decide, by decide⟩, by decide +kernel⟩, w_1042, w_1043, _, rfl, rfl⟩
theorem vL_118 : bw_cv RL 118 mX9_parts 2 11 := ⟨⟨w_1052, w_53, w_1055, ⟨by decide, by decide⟩, by decide +kernel⟩, w_1053, w_1054, _, rfl, rfl⟩
theorem vL_121 : bw_cv RL 121 mX9_span 0 11 := ⟨⟨w_1075, w_53, w_1078, ⟨by decide, by decide⟩, by decide +kernel⟩, w_1076, w_1077, _, rfl, rfl⟩
theorem vL_124 : bw_cv RL 124 mX9_forth 1 11 := ⟨⟨w_1091, w_53, w_1094, ⟨by decide, by decide⟩, by decide +kernel⟩, w_1092, w_1093, _, rfl, rfl⟩
theorem vL_127 : bw_cv RL 127 mX9_back 0 11 := ⟨⟨w_1103, w_53, w_1106, ⟨by decide, by decide⟩, by decide +kernel⟩, w_1104, w_1105, _, rfl, rfl⟩
theorem vL_130 : bw_cv RL 130 mX9_told 1 11 := ⟨⟨w_1111, w_53, w_1114, ⟨by decide, by decide⟩, by decide +kernel⟩, w_1112, w_1113, _, rfl, rfl⟩
theorem nL_8 : bw_nl RL 8 11 17 [.null, .null, .null, .null, .null, .null, .null, .null, .null, .null, .int 0, .null, .int 0, .null, .int 0, .null, .int 0] := ⟨RX9, TX9, tyX9, rfl, uX_X9, tyX9_ok, w_77, w_78, w_53, by decide⟩
theorem sL_133 : bw_cs RL 133 mL_cell 2 := ⟨⟨w_380, w_52, w_382, ⟨by decide, by decide⟩, by decide +kernel⟩, w_381⟩
theorem iL_138 : bw_ci RL 138 mX9_init 2 := ⟨⟨w_79, w_53, w_81, ⟨by decide, by decide⟩, by decide +kernel⟩, w_80, rfl, rfl⟩
theorem nL_141 : bw_nl RL 141 12 30 [.int 0, .int 0, .int 0, .int 0, .int 0, .int 0, .null, .int 0, .null, .null, .null, .null, .null, .null, .int 0, .null, .null, .null, .null, .null, .null, .int 0, .int 0, .null, .int 0, .null, .null, .null, .int 0, .null] := ⟨RX10, TX10, tyX10, rfl, uX_X10, tyX10_ok, w_1120, w_1121, w_63, by decide⟩
theorem iL_143 : bw_ci RL 143 mX10_init 2 := ⟨⟨w_1122, w_63, w_1124, ⟨by decide, by decide⟩, by decide +kernel⟩, w_1123, rfl, rfl⟩
theorem vL_144 : bw_cv RL 144 mX9_poly 0 11 := ⟨⟨w_368, w_53, w_371, ⟨by decide, by decide⟩, by decide +kernel⟩, w_369, w_370, _, rfl, rfl⟩
theorem vL_147 : bw_cv RL 147 mX10_poly 0 12 := ⟨⟨w_1247, w_63, w_1250, ⟨by decide, by decide⟩, by decide +kernel⟩, w_1248, w_1249, _, rfl, rfl⟩
theorem vL_148 : bw_cv RL 148 mX9_generator 0 11 := ⟨⟨w_372, w_53, w_375, ⟨by decide, by decide⟩, by decide +kernel⟩, w_373, w_374, _, rfl, rfl⟩
theorem vL_151 : bw_cv RL 151 mX10_generator 0 12 := ⟨⟨w_1251, w_63, w_1254, ⟨by decide, by decide⟩, by decide +kernel⟩, w_1252, w_1253, _, rfl, rfl⟩
theorem hL_152 : bw_ch RL 152 mL_product 4 := ⟨w_383, w_52, w_385, w_384, ⟨by decide, by decide⟩, by decide +kernel⟩
theorem vL_155 : bw_cv RL 155 mX10_product 2 12 := ⟨⟨w_1255, w_63, w_1258, ⟨by decide, by decide⟩, by decide +kernel⟩, w_1256, w_1257, _, rfl, rfl⟩
theorem vL_156 : bw_cv RL 156 mX10_thrown 0 12 := ⟨⟨w_1116, w_63, w_1119, ⟨by decide, by decide⟩, by decide +kernel⟩, w_1117, w_1118, _, rfl, rfl⟩
theorem hL_159 : bw_ch RL 159 mL_quotient 4 := ⟨w_467, w_52, w_469, w_468, ⟨by decide, by decide⟩, by decide +kernel⟩
theorem vL_161 : bw_cv RL 161 mX10_quotient 2 12 := ⟨⟨w_1267, w_63, w_1270, ⟨by decide, by decide⟩, by decide +kernel⟩, w_1268, w_1269, _, rfl, rfl⟩
theorem kL_162 : Cond.constantLong RL 162 (4294967295) ∈ bw_uw := w_1490
theorem hL_164 : bw_ch RL 164 mL_power 4 := ⟨w_505, w_52, w_507, w_506, ⟨by decide, by decide⟩, by decide +kernel⟩
theorem vL_167 : bw_cv RL 167 mX10_power 2 12 := ⟨⟨w_1275, w_63, w_1278, ⟨by decide, by decide⟩, by decide +kernel⟩, w_1276, w_1277, _, rfl, rfl⟩
theorem hL_168 : bw_ch RL 168 mL_log 3 := ⟨w_521, w_52, w_523, w_522, ⟨by decide, by decide⟩, by decide +kernel⟩
theorem vL_171 : bw_cv RL 171 mX10_log 1 12 := ⟨⟨w_1279, w_63, w_1282, ⟨by decide, by decide⟩, by decide +kernel⟩, w_1280, w_1281, _, rfl, rfl⟩
theorem hL_172 : bw_ch RL 172 mL_order 3 := ⟨w_551, w_52, w_553, w_552, ⟨by decide, by decide⟩, by decide +kernel⟩
theorem vL_174 : bw_cv RL 174 mX10_order 1 12 := ⟨⟨w_1283, w_63, w_1286, ⟨by decide, by decide⟩, by decide +kernel⟩, w_1284, w_1285, _, rfl, rfl⟩
theorem hL_175 : bw_ch RL 175 mL_put 3 := ⟨w_562, w_52, w_564, w_563, ⟨by decide, by decide⟩, by decide +kernel⟩
theorem vL_177 : bw_cv RL 177 mX10_put 1 12 := ⟨⟨w_1287, w_63, w_1290, ⟨by decide, by decide⟩, by decide +kernel⟩, w_1288, w_1289, _, rfl, rfl⟩
theorem hL_178 : bw_ch RL 178 mL_row 3 := ⟨w_586, w_52, w_588, w_587, ⟨by decide, by decide⟩, by decide +kernel⟩
theorem vL_180 : bw_cv RL 180 mX10_row 1 12 := ⟨⟨w_1291, w_63, w_1294, ⟨by decide, by decide⟩, by decide +kernel⟩, w_1292, w_1293, _, rfl, rfl⟩
theorem vL_181 : bw_cv RL 181 mX9_drop 0 11 := ⟨⟨w_376, w_53, w_379, ⟨by decide, by decide⟩, by decide +kernel⟩, w_377, w_378, _, rfl, rfl⟩
theorem vL_184 : bw_cv RL 184 mX10_drop 0 12 := ⟨⟨w_1295, w_63, w_1298, ⟨by decide, by decide⟩, by decide +kernel⟩, w_1296, w_1297, _, rfl, rfl⟩
theorem hL_185 : bw_ch RL 185 mL_matrix 4 := ⟨w_607, w_52, w_609, w_608, ⟨by decide, by decide⟩, by decide +kernel⟩
theorem vL_187 : bw_cv RL 187 mX10_matrix 2 12 := ⟨⟨w_1299, w_63, w_1302, ⟨by decide, by decide⟩, by decide +kernel⟩, w_1300, w_1301, _, rfl, rfl⟩
theorem hL_188 : bw_ch RL 188 mL_powers 4 := ⟨w_651, w_52, w_653, w_652, ⟨by decide, by decide⟩, by decide +kernel⟩
theorem vL_190 : bw_cv RL 190 mX10_powers 2 12 := ⟨⟨w_1310, w_63, w_1313, ⟨by decide, by decide⟩, by decide +kernel⟩, w_1311, w_1312, _, rfl, rfl⟩
theorem hL_191 : bw_ch RL 191 mL_sums 4 := ⟨w_679, w_52, w_681, w_680, ⟨by decide, by decide⟩, by decide +kernel⟩
theorem vL_193 : bw_cv RL 193 mX10_sums 2 12 := ⟨⟨w_1322, w_63, w_1325, ⟨by decide, by decide⟩, by decide +kernel⟩, w_1323, w_1324, _, rfl, rfl⟩
theorem hL_194 : bw_ch RL 194 mL_size 4 := ⟨w_688, w_52, w_690, w_689, ⟨by decide, by decide⟩, by decide +kernel⟩
theorem vL_196 : bw_cv RL 196 mX10_size 2 12 := ⟨⟨w_1326, w_63, w_1329, ⟨by decide, by decide⟩, by decide +kernel⟩, w_1327, w_1328, _, rfl, rfl⟩
theorem hL_197 : bw_ch RL 197 mL_cell_ 5 := ⟨w_701, w_52, w_703, w_702, ⟨by decide, by decide⟩, by decide +kernel⟩
theorem vL_200 : bw_cv RL 200 mX10_cell 3 12 := ⟨⟨w_1334, w_63, w_1337, ⟨by decide, by decide⟩, by decide +kernel⟩, w_1335, w_1336, _, rfl, rfl⟩
theorem hL_201 : bw_ch RL 201 mL_set 6 := ⟨w_712, w_52, w_714, w_713, ⟨by decide, by decide⟩, by decide +kernel⟩
theorem vL_204 : bw_cv RL 204 mX10_set 4 12 := ⟨⟨w_1342, w_63, w_1345, ⟨by decide, by decide⟩, by decide +kernel⟩, w_1343, w_1344, _, rfl, rfl⟩
theorem hL_205 : bw_ch RL 205 mL_times 4 := ⟨w_719, w_52, w_721, w_720, ⟨by decide, by decide⟩, by decide +kernel⟩
theorem vL_207 : bw_cv RL 207 mX10_times 2 12 := ⟨⟨w_1346, w_63, w_1349, ⟨by decide, by decide⟩, by decide +kernel⟩, w_1347, w_1348, _, rfl, rfl⟩
theorem hL_208 : bw_ch RL 208 mL_invert 3 := ⟨w_731, w_52, w_733, w_732, ⟨by decide, by decide⟩, by decide +kernel⟩
theorem vL_210 : bw_cv RL 210 mX10_invert 1 12 := ⟨⟨w_1365, w_63, w_1368, ⟨by decide, by decide⟩, by decide +kernel⟩, w_1366, w_1367, _, rfl, rfl⟩
theorem hL_211 : bw_ch RL 211 mL_rank 3 := ⟨w_780, w_52, w_782, w_781, ⟨by decide, by decide⟩, by decide +kernel⟩
theorem vL_213 : bw_cv RL 213 mX10_rank 1 12 := ⟨⟨w_1369, w_63, w_1372, ⟨by decide, by decide⟩, by decide +kernel⟩, w_1370, w_1371, _, rfl, rfl⟩
theorem hL_214 : bw_ch RL 214 mL_determinant 3 := ⟨w_787, w_52, w_789, w_788, ⟨by decide, by decide⟩, by decide +kernel⟩
theorem vL_216 : bw_cv RL 216 mX10_determinant 1 12 := ⟨⟨w_1361, w_63, w_1364, ⟨by decide, by decide⟩, by decide +kernel⟩, w_1362, w_1363, _, rfl, rfl⟩
theorem hL_217 : bw_ch RL 217 mL_singular 3 := ⟨w_794, w_52, w_796, w_795, ⟨by decide, by decide⟩, by decide +kernel⟩
theorem vL_219 : bw_cv RL 219 mX10_singular 1 12 := ⟨⟨w_1350, w_63, w_1353, ⟨by decide, by decide⟩, by decide +kernel⟩, w_1351, w_1352, _, rfl, rfl⟩
theorem hL_220 : bw_ch RL 220 mL_solve 3 := ⟨w_823, w_52, w_825, w_824, ⟨by decide, by decide⟩, by decide +kernel⟩
theorem vL_222 : bw_cv RL 222 mX10_solve 1 12 := ⟨⟨w_1373, w_63, w_1376, ⟨by decide, by decide⟩, by decide +kernel⟩, w_1374, w_1375, _, rfl, rfl⟩
theorem hL_223 : bw_ch RL 223 mL_polynomial 2 := ⟨w_843, w_52, w_845, w_844, ⟨by decide, by decide⟩, by decide +kernel⟩
theorem vL_226 : bw_cv RL 226 mX10_polynomial 0 12 := ⟨⟨w_1377, w_63, w_1380, ⟨by decide, by decide⟩, by decide +kernel⟩, w_1378, w_1379, _, rfl, rfl⟩
theorem hL_227 : bw_ch RL 227 mL_through 2 := ⟨w_878, w_52, w_880, w_879, ⟨by decide, by decide⟩, by decide +kernel⟩
theorem vL_229 : bw_cv RL 229 mX10_through 0 12 := ⟨⟨w_1391, w_63, w_1394, ⟨by decide, by decide⟩, by decide +kernel⟩, w_1392, w_1393, _, rfl, rfl⟩
theorem hL_230 : bw_ch RL 230 mL_degree 3 := ⟨w_902, w_52, w_904, w_903, ⟨by decide, by decide⟩, by decide +kernel⟩
theorem vL_232 : bw_cv RL 232 mX10_degree 1 12 := ⟨⟨w_1407, w_63, w_1410, ⟨by decide, by decide⟩, by decide +kernel⟩, w_1408, w_1409, _, rfl, rfl⟩
theorem hL_233 : bw_ch RL 233 mL_coefficient 4 := ⟨w_914, w_52, w_916, w_915, ⟨by decide, by decide⟩, by decide +kernel⟩
theorem vL_235 : bw_cv RL 235 mX10_coefficient 2 12 := ⟨⟨w_1415, w_63, w_1418, ⟨by decide, by decide⟩, by decide +kernel⟩, w_1416, w_1417, _, rfl, rfl⟩
theorem hL_236 : bw_ch RL 236 mL_value 4 := ⟨w_922, w_52, w_924, w_923, ⟨by decide, by decide⟩, by decide +kernel⟩
theorem vL_238 : bw_cv RL 238 mX10_value 2 12 := ⟨⟨w_1419, w_63, w_1422, ⟨by decide, by decide⟩, by decide +kernel⟩, w_1420, w_1421, _, rfl, rfl⟩
theorem hL_239 : bw_ch RL 239 mL_plus 4 := ⟨w_933, w_52, w_935, w_934, ⟨by decide, by decide⟩, by decide +kernel⟩
theorem vL_241 : bw_cv RL 241 mX10_plus 2 12 := ⟨⟨w_1427, w_63, w_1430, ⟨by decide, by decide⟩, by decide +kernel⟩, w_1428, w_1429, _, rfl, rfl⟩
theorem hL_242 : bw_ch RL 242 mL_multiply 4 := ⟨w_948, w_52, w_950, w_949, ⟨by decide, by decide⟩, by decide +kernel⟩
theorem vL_244 : bw_cv RL 244 mX10_multiply 2 12 := ⟨⟨w_1431, w_63, w_1434, ⟨by decide, by decide⟩, by decide +kernel⟩, w_1432, w_1433, _, rfl, rfl⟩
theorem hL_245 : bw_ch RL 245 mL_divide 5 := ⟨w_957, w_52, w_959, w_958, ⟨by decide, by decide⟩, by decide +kernel⟩
theorem vL_248 : bw_cv RL 248 mX10_divide 3 12 := ⟨⟨w_1435, w_63, w_1438, ⟨by decide, by decide⟩, by decide +kernel⟩, w_1436, w_1437, _, rfl, rfl⟩
theorem hL_249 : bw_ch RL 249 mL_common 4 := ⟨w_986, w_52, w_988, w_987, ⟨by decide, by decide⟩, by decide +kernel⟩
theorem vL_251 : bw_cv RL 251 mX10_common 2 12 := ⟨⟨w_1443, w_63, w_1446, ⟨by decide, by decide⟩, by decide +kernel⟩, w_1444, w_1445, _, rfl, rfl⟩
theorem hL_252 : bw_ch RL 252 mL_root 4 := ⟨w_1000, w_52, w_1002, w_1001, ⟨by decide, by decide⟩, by decide +kernel⟩
theorem vL_254 : bw_cv RL 254 mX10_root 2 12 := ⟨⟨w_1454, w_63, w_1457, ⟨by decide, by decide⟩, by decide +kernel⟩, w_1455, w_1456, _, rfl, rfl⟩
theorem hL_255 : bw_ch RL 255 mL_often 4 := ⟨w_1038, w_52, w_1040, w_1039, ⟨by decide, by decide⟩, by decide +kernel⟩
theorem vL_257 : bw_cv RL 257 mX10_often 2 12 := ⟨⟨w_1458, w_63, w_1461, ⟨by decide, by decide⟩, by decide +kernel⟩, w_1459, w_1460, _, rfl, rfl⟩
theorem hL_258 : bw_ch RL 258 mL_parts 4 := ⟨w_1049, w_52, w_1051, w_1050, ⟨by decide, by decide⟩, by decide +kernel⟩
theorem vL_260 : bw_cv RL 260 mX10_parts 2 12 := ⟨⟨w_1462, w_63, w_1465, ⟨by decide, by decide⟩, by decide +kernel⟩, w_1463, w_1464, _, rfl, rfl⟩
theorem hL_261 : bw_ch RL 261 mL_span 2 := ⟨w_1072, w_52, w_1074, w_1073, ⟨by decide, by decide⟩, by decide +kernel⟩
theorem vL_263 : bw_cv RL 263 mX10_span 0 12 := ⟨⟨w_1474, w_63, w_1477, ⟨by decide, by decide⟩, by decide +kernel⟩, w_1475, w_1476, _, rfl, rfl⟩
theorem hL_264 : bw_ch RL 264 mL_forth 3 := ⟨w_1088, w_52, w_1090, w_1089, ⟨by decide, by decide⟩, by decide +kernel⟩
theorem vL_266 : bw_cv RL 266 mX10_forth 1 12 := ⟨⟨w_1478, w_63, w_1481, ⟨by decide, by decide⟩, by decide +kernel⟩, w_1479, w_1480, _, rfl, rfl⟩
theorem hL_267 : bw_ch RL 267 mL_back 2 := ⟨w_1100, w_52, w_1102, w_1101, ⟨by decide, by decide⟩, by decide +kernel⟩
theorem vL_269 : bw_cv RL 269 mX10_back 0 12 := ⟨⟨w_1482, w_63, w_1485, ⟨by decide, by decide⟩, by decide +kernel⟩, w_1483, w_1484, _, rfl, rfl⟩
theorem hL_270 : bw_ch RL 270 mL_told 3 := ⟨w_1108, w_52, w_1110, w_1109, ⟨by decide, by decide⟩, by decide +kernel⟩
theorem vL_272 : bw_cv RL 272 mX10_told 1 12 := ⟨⟨w_1486, w_63, w_1489, ⟨by decide, by decide⟩, by decide +kernel⟩, w_1487, w_1488, _, rfl, rfl⟩
theorem oX0_3 : Cond.methodLink RX0 3 Lib.objectInit ∈ bw_uw := w_229
theorem oX1_3 : Cond.methodLink RX1 3 Lib.objectInit ∈ bw_uw := w_184
theorem aX1_41 : Cond.methodLink RX1 41 arraycopyName ∈ bw_uw := w_746
theorem oX2_3 : Cond.methodLink RX2 3 Lib.objectInit ∈ bw_uw := w_294
theorem oX3_1 : Cond.methodLink RX3 1 Lib.objectInit ∈ bw_uw := w_120
theorem oX4_3 : Cond.methodLink RX4 3 Lib.objectInit ∈ bw_uw := w_239
theorem oX5_1 : Cond.methodLink RX5 1 Lib.objectInit ∈ bw_uw := w_627
theorem oX6_3 : Cond.methodLink RX6 3 Lib.objectInit ∈ bw_uw := w_215
theorem oX7_3 : Cond.methodLink RX7 3 Lib.objectInit ∈ bw_uw := w_90
theorem aX7_25 : Cond.methodLink RX7 25 arraycopyName ∈ bw_uw := w_864
theorem xX7_45 : Cond.methodLink RX7 45 Lib.Math.max.name ∈ bw_uw := w_945
theorem oX8_3 : Cond.methodLink RX8 3 Lib.objectInit ∈ bw_uw := w_255
theorem oX9_3 : Cond.methodLink RX9 3 Lib.objectInit ∈ bw_uw := w_82
theorem oX10_7 : Cond.methodLink RX10 7 Lib.objectInit ∈ bw_uw := w_1125
theorem bw_oI : Cond.instanceMethod Lib.objectInit ∈ bw_uw := w_83
theorem bw_oC : Cond.code Lib.objectInit ⟨#[0xb1]⟩ 1 none ∈ bw_uw := w_84
theorem bw_aN : Cond.native arraycopyName ∈ bw_uw := w_748
theorem bw_aS : Cond.static arraycopyName ∈ bw_uw := w_747
theorem bw_aI : Cond.initialized "java/lang/System" ∈ bw_uw := w_75
theorem bw_xS : Cond.static Lib.Math.max.name ∈ bw_uw := w_946
theorem bw_xI : Cond.initialized "java/lang/Math" ∈ bw_uw := w_76
theorem bw_xC : Cond.code Lib.Math.max.name Lib.Math.max.code 2 (some .int) ∈ bw_uw := w_947
theorem bw_wI : Cond.arrayClass .int ∈ bw_uw := w_111
theorem bw_wL : Cond.arrayClass .long ∈ bw_uw := w_1491
